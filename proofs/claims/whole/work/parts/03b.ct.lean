theorem hdX2_below : yX2_below.cls ≠ "java/lang/invoke/MethodHandle" ∧ yX2_below.cls ≠ "java/lang/invoke/VarHandle" ∧ (parseMethodDescriptor yX2_below.desc).map (fun d => d.parameters.length) = some 3 := by decide +kernel
set_option maxRecDepth 100000 in
set_option maxHeartbeats 4000000 in
theorem ctX2_below (l : Launch) (E : Ev) : ∀ (d : Nat) (tp : Nat) (a1 : Option Nat) (a2 : Int) (a3 : Int) (σ : SS) (Q : Option Nat → SS → Prop) (ha1 : ∀ b, a1 = some b → sS σ b) (ha2 : R32 a2) (ha3 : R32 a3) (ht : sz σ ≤ tp) (h : wX2_below d tp a1 a2 a3 σ Q), Met l yX2_below wsX2_below ({ frames := 49 + d, cells := tp - sz σ, slots := 9 * (tp - sz σ), locals := 1328 + d * 24 } : Room) (Pc E σ [.ref (ea E 1), va_rf (a1), .int (iI (a2)), .int (iI (a3))]) (Qr E tp σ Q) (tp - sz σ) (9 * (tp - sz σ)) (Av E) := by
  intro d
  induction d with
  | zero => intro tp a1 a2 a3 σ Q ha1 ha2 ha3 ht h; exact False.elim h
  | succ d ih =>
  intro tp a1 a2 a3 σ Q ha1 ha2 ha3 ht h
  rw [wX2_below] at h
  refine Met.ofW (cc := cX2_below) (maxL := 5) (ret := (some (.object "JoinMaps$Node"))) (by decide) rfl ?_
  intro p e s m args below meth c s₁ B hml hv
  obtain ⟨rfl, hH, hK, hN⟩ := hv
  have hx := B.exec
  have hb := B.bytes
  have hr := B.returns
  have hts := atoms_spec (ws := wsX2_below) B.pre
  have hown : s.vm.findClass RX2 = some m.cls := findClass_of_methodNamed B.named
  have hlocks := B.notSynchronized
  have hg : GS E σ s s.heap [] := ⟨hH, va_S.rf⟩
  have hm : Mo tp σ σ := Mo.rf ht
  have hl := ent (vs := [.ref (ea E 1), va_rf (a1), .int (iI (a2)), .int (iI (a3))]) (n := 5) (cats_x (cats_r (cats_i (cats_i cats_nil)))) (Nat.le_of_ble_eq_true rfl)
  rw [lg_entry_eq]
  generalize (lg_sl ([.ref (ea E 1), va_rf (a1), .int (iI (a2)), .int (iI (a3))]) ++ List.replicate (5 - (lg_sl ([.ref (ea E 1), va_rf (a1), .int (iI (a2)), .int (iI (a3))])).length) Slot.unset).toArray = ls at hl ⊢
  have hl : lv_has ls 5 [(0, .ref (ea E 1)), (1, va_rf (a1)), (2, .int (iI (a2))), (3, .int (iI (a3)))] := hl
  refine W_narrow hg hH (show sz σ ≤ sz σ + (sz σ - sz σ) by omega) (show 9 * (sz σ - sz σ) ≤ 9 * (sz σ - sz σ) from Nat.le_refl _) ?_
  refine q_aload_n hx hb dX2_below_0 rfl (lv_at hl 1 rfl) ?_
  refine j_null (tgt := 10) hx hb dX2_below_1 (by decide) (fun c1 => ?_) (fun b2 c1 => ?_)
  · have h := h.1 c1
    refine q_null hx hb dX2_below_10 ?_
    refine W.widen (k := tp - sz σ) (n := 9 * (tp - sz σ)) (show sz σ - sz σ ≤ _ by have q1 := hm.2.2; omega) (show 9 * (sz σ - sz σ) ≤ _ by have q1 := hm.2.2; omega) ?_
    exact ret_r hx hb hr hlocks hg (fun b h0 => by cases h0) hm h dX2_below_11
  · have h := h.2 b2 c1
    refine lv_iload_n hx hb dX2_below_4 rfl (lv_at hl 3 rfl) ?_
    refine lv_bipush (v := iI 40) hx hb dX2_below_5 (by decide) ?_
    refine j_le (tgt := 12) hx hb dX2_below_7 (by decide) ha3 (by decide) (fun c3 => ?_) (fun c3 => ?_)
    · have h := h.1 c3
      refine q_aload_n hx hb dX2_below_12 rfl (lv_at hl 1 rfl) ?_
      refine q_ngeti_o c1 hx hb hts (fun _ h9 => List.mem_cons_of_mem _ (List.mem_append_left _ (List.mem_append_right _ h9))) hown hK hg (ha1 b2 c1) 0 (by decide) (hts (.fieldLink RX2 31 "JoinMaps$Node" "key" "I") (List.mem_cons_of_mem _ (List.mem_append_left _ (List.mem_append_left _ (List.mem_append_left _ (List.mem_of_getElem? (i := 0) rfl)))))) rfl rfl dX2_below_13 ?_
      have hR4 := GS_R hg (b2 + 64) 0
      refine lv_iload_n hx hb dX2_below_16 rfl (lv_at hl 2 rfl) ?_
      refine j_lt (tgt := 33) hx hb dX2_below_17 (by decide) hR4 ha2 (fun c5 => ?_) (fun c5 => ?_)
      · have h := h.1 c5
        refine lv_aload_n hx hb dX2_below_33 rfl (lv_at hl 0 rfl) ?_
        refine q_aload_n hx hb dX2_below_34 rfl (lv_at hl 1 rfl) ?_
        refine q_ngetr_o c1 hx hb hts (fun _ h9 => List.mem_cons_of_mem _ (List.mem_append_left _ (List.mem_append_right _ h9))) hown hK hg (ha1 b2 c1) 5 (by decide) (hts (.fieldLink RX2 40 "JoinMaps$Node" "right" "LJoinMaps$Node;") (List.mem_cons_of_mem _ (List.mem_append_left _ (List.mem_append_left _ (List.mem_append_left _ (List.mem_of_getElem? (i := 2) rfl)))))) rfl rfl dX2_below_35 ?_
        have hS6 : ∀ b, (sf σ (b2 + 64) 5) = some b → sS σ b := fun b h0 => GS_F hg h0
        refine lv_iload_n hx hb dX2_below_38 rfl (lv_at hl 2 rfl) ?_
        refine lv_iload_n hx hb dX2_below_39 rfl (lv_at hl 3 rfl) ?_
        refine lv_iconst (v := iI 1) hx hb dX2_below_40 (by decide) ?_
        refine q_iadd hx hb dX2_below_41 ?_
        obtain ⟨hR7, h⟩ := h
        refine call_r (run_V (a := ea E 1) (As := [va_rf ((sf σ (b2 + 64) 5)), .int (iI (a2)), .int (iI ((a3 + 1)))]) (rest := []) ⟨hx, hb, hml, hown, hts⟩ (ih tp (sf σ (b2 + 64) 5) a2 (a3 + 1) σ _ hS6 ha2 hR7 hm.2.2 h) (cwV 3 hts gX2_below_X2_below rfl rfl rfl ⟨rfl, hdX2_below⟩ ⟨by show 49 + d + 1 ≤ 49 + (d + 1); omega, by show 8 + (5 + 11) + (1328 + d * 24) ≤ 1328 + (d + 1) * 24; omega⟩) hK hN hg (recv_x (ci := 2) (C := RX2) (T := TX2) (N := 4) hg hK (by decide) rfl (by decide) rfl) rfl hl.1 rfl (cat_sum _ (by simp)) dX2_below_42 (show (sz σ - sz σ) + (tp - sz σ) ≤ tp - sz σ ∧ 9 * (sz σ - sz σ) + 9 * (tp - sz σ) ≤ 9 * (tp - sz σ) by have q1 := hm.2.1; have q2 := hm.2.2; omega)) hg (fun r9 s8 H locs hz10 hm2 h hg => ?_)
        have hS11 : ∀ b, a1 = some b → sS s8 b := (fun b h0 => hm2.1 b (ha1 b h0))
        have hm := hm.ta hm2
        refine W_narrow hg hH (show sz s8 ≤ sz σ + (sz s8 - sz σ) by have q1 := hm.2.1; omega) (Nat.le_refl _) ?_
        refine q_astore (i := 4) (lv' := [(4, va_rf (r9)), (0, .ref (ea E 1)), (1, va_rf (a1)), (2, .int (iI (a2))), (3, .int (iI (a3)))]) hx hb dX2_below_45 hl (by decide) (by simp [List.filter_cons, rf_cat, ct_i, ct_l, ct_x]) (fun ls hl => ?_)
        refine q_aload hx hb dX2_below_47 (lv_at hl 0 rfl) ?_
        refine q_aload_n hx hb dX2_below_49 rfl (lv_at hl 2 rfl) ?_
        refine q_ngetr_o c1 hx hb hts (fun _ h9 => List.mem_cons_of_mem _ (List.mem_append_left _ (List.mem_append_right _ h9))) hown hK hg (hS11 b2 c1) 5 (by decide) (hts (.fieldLink RX2 40 "JoinMaps$Node" "right" "LJoinMaps$Node;") (List.mem_cons_of_mem _ (List.mem_append_left _ (List.mem_append_left _ (List.mem_append_left _ (List.mem_of_getElem? (i := 2) rfl)))))) rfl rfl dX2_below_50 ?_
        have hS12 : ∀ b, (sf s8 (b2 + 64) 5) = some b → sS s8 b := fun b h0 => GS_F hg h0
        refine lv_acmp_ne (tgt := 60) hx hb dX2_below_53 (by decide) (fun c13 => ?_) (fun c13 => ?_)
        · have h := h.1 c13
          refine lv_aload_n hx hb dX2_below_60 rfl (lv_at hl 1 rfl) ?_
          refine q_aload_n hx hb dX2_below_61 rfl (lv_at hl 2 rfl) ?_
          refine q_ngetr_o c1 hx hb hts (fun _ h9 => List.mem_cons_of_mem _ (List.mem_append_left _ (List.mem_append_right _ h9))) hown hK hg (hS11 b2 c1) 4 (by decide) (hts (.fieldLink RX2 37 "JoinMaps$Node" "left" "LJoinMaps$Node;") (List.mem_cons_of_mem _ (List.mem_append_left _ (List.mem_append_left _ (List.mem_append_left _ (List.mem_of_getElem? (i := 1) rfl)))))) rfl rfl dX2_below_62 ?_
          have hS14 : ∀ b, (sf s8 (b2 + 64) 4) = some b → sS s8 b := fun b h0 => GS_F hg h0
          refine q_aload_n hx hb dX2_below_65 rfl (lv_at hl 2 rfl) ?_
          refine q_ngeti_o c1 hx hb hts (fun _ h9 => List.mem_cons_of_mem _ (List.mem_append_left _ (List.mem_append_right _ h9))) hown hK hg (hS11 b2 c1) 0 (by decide) (hts (.fieldLink RX2 31 "JoinMaps$Node" "key" "I") (List.mem_cons_of_mem _ (List.mem_append_left _ (List.mem_append_left _ (List.mem_append_left _ (List.mem_of_getElem? (i := 0) rfl)))))) rfl rfl dX2_below_66 ?_
          have hR15 := GS_R hg (b2 + 64) 0
          refine q_aload_n hx hb dX2_below_69 rfl (lv_at hl 2 rfl) ?_
          refine q_ngeti_o c1 hx hb hts (fun _ h9 => List.mem_cons_of_mem _ (List.mem_append_left _ (List.mem_append_right _ h9))) hown hK hg (hS11 b2 c1) 1 (by decide) (hts (.fieldLink RX2 34 "JoinMaps$Node" "value" "I") (List.mem_cons_of_mem _ (List.mem_append_left _ (List.mem_append_left _ (List.mem_append_left _ (List.mem_of_getElem? (i := 3) rfl)))))) rfl rfl dX2_below_70 ?_
          have hR16 := GS_R hg (b2 + 64) 1
          refine q_aload hx hb dX2_below_73 (lv_at hl 0 rfl) ?_
          refine lv_iconst (v := iI 0) hx hb dX2_below_75 (by decide) ?_
          refine call_r (run_V (a := ea E 1) (As := [va_rf ((sf s8 (b2 + 64) 4)), .int (iI ((sn s8 (b2 + 64) 0))), .int (iI ((sn s8 (b2 + 64) 1))), va_rf (r9), .int (iI (0))]) (rest := []) ⟨hx, hb, hml, hown, hts⟩ (ctX2_join l E 44 tp (sf s8 (b2 + 64) 4) (sn s8 (b2 + 64) 0) (sn s8 (b2 + 64) 1) r9 0 s8 _ hS14 hR15 hR16 hz10 (by decide) hm.2.2 h) (cwV 5 hts gX2_below_X2_join rfl rfl rfl ⟨rfl, hdX2_join⟩ ⟨by show 48 + 1 ≤ 49 + (d + 1); omega, by show 8 + (8 + 11) + 1301 ≤ 1328 + (d + 1) * 24; omega⟩) hK hN hg (recv_x (ci := 2) (C := RX2) (T := TX2) (N := 4) hg hK (by decide) rfl (by decide) rfl) rfl hl.1 rfl (cat_sum _ (by simp)) dX2_below_76 (show (sz s8 - sz σ) + (tp - sz s8) ≤ tp - sz σ ∧ 9 * (sz s8 - sz σ) + 9 * (tp - sz s8) ≤ 9 * (tp - sz σ) by have q1 := hm.2.1; have q2 := hm.2.2; omega)) hg (fun r18 s17 H locs hz19 hm2 h hg => ?_)
          have hS20 : ∀ b, r9 = some b → sS s17 b := (fun b h0 => hm2.1 b (hz10 b h0))
          have hS21 : ∀ b, a1 = some b → sS s17 b := (fun b h0 => hm2.1 b (hS11 b h0))
          have hm := hm.ta hm2
          refine W_narrow hg hH (show sz s17 ≤ sz σ + (sz s17 - sz σ) by have q1 := hm.2.1; omega) (Nat.le_refl _) ?_
          refine W.widen (k := tp - sz σ) (n := 9 * (tp - sz σ)) (show sz s17 - sz σ ≤ _ by have q1 := hm.2.2; omega) (show 9 * (sz s17 - sz σ) ≤ _ by have q1 := hm.2.2; omega) ?_
          exact ret_r hx hb hr hlocks hg hz19 hm h dX2_below_79
        · have h := h.2 c13
          refine q_aload_n hx hb dX2_below_56 rfl (lv_at hl 2 rfl) ?_
          refine lv_goto (tgt := 79) hx hb dX2_below_57 (by decide) ?_
          refine W.widen (k := tp - sz σ) (n := 9 * (tp - sz σ)) (show sz s8 - sz σ ≤ _ by have q1 := hm.2.2; omega) (show 9 * (sz s8 - sz σ) ≤ _ by have q1 := hm.2.2; omega) ?_
          exact ret_r hx hb hr hlocks hg hS11 hm h dX2_below_79
      · have h := h.2 c5
        refine lv_aload_n hx hb dX2_below_20 rfl (lv_at hl 0 rfl) ?_
        refine q_aload_n hx hb dX2_below_21 rfl (lv_at hl 1 rfl) ?_
        refine q_ngetr_o c1 hx hb hts (fun _ h9 => List.mem_cons_of_mem _ (List.mem_append_left _ (List.mem_append_right _ h9))) hown hK hg (ha1 b2 c1) 4 (by decide) (hts (.fieldLink RX2 37 "JoinMaps$Node" "left" "LJoinMaps$Node;") (List.mem_cons_of_mem _ (List.mem_append_left _ (List.mem_append_left _ (List.mem_append_left _ (List.mem_of_getElem? (i := 1) rfl)))))) rfl rfl dX2_below_22 ?_
        have hS22 : ∀ b, (sf σ (b2 + 64) 4) = some b → sS σ b := fun b h0 => GS_F hg h0
        refine lv_iload_n hx hb dX2_below_25 rfl (lv_at hl 2 rfl) ?_
        refine lv_iload_n hx hb dX2_below_26 rfl (lv_at hl 3 rfl) ?_
        refine lv_iconst (v := iI 1) hx hb dX2_below_27 (by decide) ?_
        refine q_iadd hx hb dX2_below_28 ?_
        obtain ⟨hR23, h⟩ := h
        refine call_r (run_V (a := ea E 1) (As := [va_rf ((sf σ (b2 + 64) 4)), .int (iI (a2)), .int (iI ((a3 + 1)))]) (rest := []) ⟨hx, hb, hml, hown, hts⟩ (ih tp (sf σ (b2 + 64) 4) a2 (a3 + 1) σ _ hS22 ha2 hR23 hm.2.2 h) (cwV 3 hts gX2_below_X2_below rfl rfl rfl ⟨rfl, hdX2_below⟩ ⟨by show 49 + d + 1 ≤ 49 + (d + 1); omega, by show 8 + (5 + 11) + (1328 + d * 24) ≤ 1328 + (d + 1) * 24; omega⟩) hK hN hg (recv_x (ci := 2) (C := RX2) (T := TX2) (N := 4) hg hK (by decide) rfl (by decide) rfl) rfl hl.1 rfl (cat_sum _ (by simp)) dX2_below_29 (show (sz σ - sz σ) + (tp - sz σ) ≤ tp - sz σ ∧ 9 * (sz σ - sz σ) + 9 * (tp - sz σ) ≤ 9 * (tp - sz σ) by have q1 := hm.2.1; have q2 := hm.2.2; omega)) hg (fun r25 s24 H locs hz26 hm2 h hg => ?_)
        have hS27 : ∀ b, a1 = some b → sS s24 b := (fun b h0 => hm2.1 b (ha1 b h0))
        have hm := hm.ta hm2
        refine W_narrow hg hH (show sz s24 ≤ sz σ + (sz s24 - sz σ) by have q1 := hm.2.1; omega) (Nat.le_refl _) ?_
        refine W.widen (k := tp - sz σ) (n := 9 * (tp - sz σ)) (show sz s24 - sz σ ≤ _ by have q1 := hm.2.2; omega) (show 9 * (sz s24 - sz σ) ≤ _ by have q1 := hm.2.2; omega) ?_
        exact ret_r hx hb hr hlocks hg hz26 hm h dX2_below_32
    · have h := h.2 c3
      refine q_null hx hb dX2_below_10 ?_
      refine W.widen (k := tp - sz σ) (n := 9 * (tp - sz σ)) (show sz σ - sz σ ≤ _ by have q1 := hm.2.2; omega) (show 9 * (sz σ - sz σ) ≤ _ by have q1 := hm.2.2; omega) ?_
      exact ret_r hx hb hr hlocks hg (fun b h0 => by cases h0) hm h dX2_below_11
theorem hdX2_with : yX2_with.cls ≠ "java/lang/invoke/MethodHandle" ∧ yX2_with.cls ≠ "java/lang/invoke/VarHandle" ∧ (parseMethodDescriptor yX2_with.desc).map (fun d => d.parameters.length) = some 3 := by decide +kernel
set_option maxRecDepth 100000 in
set_option maxHeartbeats 4000000 in
theorem ctX2_with (l : Launch) (E : Ev) (tp : Nat) (a1 : Option Nat) (a2 : Int) (a3 : Int) (σ : SS) (Q : Option Nat → SS → Prop) (ha1 : ∀ b, a1 = some b → sS σ b) (ha2 : R32 a2) (ha3 : R32 a3) (ht : sz σ ≤ tp) (h : wX2_with tp a1 a2 a3 σ Q) : Met l yX2_with wsX2_with ({ frames := 94, cells := tp - sz σ, slots := 9 * (tp - sz σ), locals := 2408 } : Room) (Pc E σ [.ref (ea E 1), va_rf (a1), .int (iI (a2)), .int (iI (a3))]) (Qr E tp σ Q) (tp - sz σ) (9 * (tp - sz σ)) (Av E) := by
  rw [wX2_with] at h
  refine Met.ofW (cc := cX2_with) (maxL := 4) (ret := (some (.object "JoinMaps$Node"))) (by decide) rfl ?_
  intro p e s m args below meth c s₁ B hml hv
  obtain ⟨rfl, hH, hK, hN⟩ := hv
  have hx := B.exec
  have hb := B.bytes
  have hr := B.returns
  have hts := atoms_spec (ws := wsX2_with) B.pre
  have hown : s.vm.findClass RX2 = some m.cls := findClass_of_methodNamed B.named
  have hlocks := B.notSynchronized
  have hg : GS E σ s s.heap [] := ⟨hH, va_S.rf⟩
  have hm : Mo tp σ σ := Mo.rf ht
  have hl := ent (vs := [.ref (ea E 1), va_rf (a1), .int (iI (a2)), .int (iI (a3))]) (n := 4) (cats_x (cats_r (cats_i (cats_i cats_nil)))) (Nat.le_of_ble_eq_true rfl)
  rw [lg_entry_eq]
  generalize (lg_sl ([.ref (ea E 1), va_rf (a1), .int (iI (a2)), .int (iI (a3))]) ++ List.replicate (4 - (lg_sl ([.ref (ea E 1), va_rf (a1), .int (iI (a2)), .int (iI (a3))])).length) Slot.unset).toArray = ls at hl ⊢
  have hl : lv_has ls 4 [(0, .ref (ea E 1)), (1, va_rf (a1)), (2, .int (iI (a2))), (3, .int (iI (a3)))] := hl
  refine W_narrow hg hH (show sz σ ≤ sz σ + (sz σ - sz σ) by omega) (show 9 * (sz σ - sz σ) ≤ 9 * (sz σ - sz σ) from Nat.le_refl _) ?_
  refine lv_aload_n hx hb dX2_with_0 rfl (lv_at hl 0 rfl) ?_
  refine lv_aload_n hx hb dX2_with_1 rfl (lv_at hl 0 rfl) ?_
  refine q_aload_n hx hb dX2_with_2 rfl (lv_at hl 1 rfl) ?_
  refine lv_iload_n hx hb dX2_with_3 rfl (lv_at hl 2 rfl) ?_
  refine lv_iconst (v := iI 0) hx hb dX2_with_4 (by decide) ?_
  refine call_r (run_V (a := ea E 1) (As := [va_rf (a1), .int (iI (a2)), .int (iI (0))]) (rest := [.ref (ea E 1)]) ⟨hx, hb, hml, hown, hts⟩ (ctX2_below l E 44 tp a1 a2 0 σ _ ha1 ha2 (by decide) hm.2.2 h) (cwV 3 hts gX2_with_X2_below rfl rfl rfl ⟨rfl, hdX2_below⟩ ⟨Nat.le_of_ble_eq_true rfl, Nat.le_of_ble_eq_true rfl⟩) hK hN hg (recv_x (ci := 2) (C := RX2) (T := TX2) (N := 4) hg hK (by decide) rfl (by decide) rfl) rfl hl.1 rfl (cat_sum _ (by simp)) dX2_with_5 (show (sz σ - sz σ) + (tp - sz σ) ≤ tp - sz σ ∧ 9 * (sz σ - sz σ) + 9 * (tp - sz σ) ≤ 9 * (tp - sz σ) by have q1 := hm.2.1; have q2 := hm.2.2; omega)) hg (fun r2 s1 H locs hz3 hm2 h hg => ?_)
  have hS4 : ∀ b, a1 = some b → sS s1 b := (fun b h0 => hm2.1 b (ha1 b h0))
  have hm := hm.ta hm2
  refine W_narrow hg hH (show sz s1 ≤ sz σ + (sz s1 - sz σ) by have q1 := hm.2.1; omega) (Nat.le_refl _) ?_
  refine lv_iload_n hx hb dX2_with_8 rfl (lv_at hl 2 rfl) ?_
  refine lv_iload_n hx hb dX2_with_9 rfl (lv_at hl 3 rfl) ?_
  refine lv_aload_n hx hb dX2_with_10 rfl (lv_at hl 0 rfl) ?_
  refine q_aload_n hx hb dX2_with_11 rfl (lv_at hl 1 rfl) ?_
  refine lv_iload_n hx hb dX2_with_12 rfl (lv_at hl 2 rfl) ?_
  refine lv_iconst (v := iI 0) hx hb dX2_with_13 (by decide) ?_
  refine call_r (run_V (a := ea E 1) (As := [va_rf (a1), .int (iI (a2)), .int (iI (0))]) (rest := [.int (iI (a3)), .int (iI (a2)), va_rf (r2), .ref (ea E 1)]) ⟨hx, hb, hml, hown, hts⟩ (ctX2_above l E 44 tp a1 a2 0 s1 _ hS4 ha2 (by decide) hm.2.2 h) (cwV 3 hts gX2_with_X2_above rfl rfl rfl ⟨rfl, hdX2_above⟩ ⟨Nat.le_of_ble_eq_true rfl, Nat.le_of_ble_eq_true rfl⟩) hK hN hg (recv_x (ci := 2) (C := RX2) (T := TX2) (N := 4) hg hK (by decide) rfl (by decide) rfl) rfl hl.1 rfl (cat_sum _ (by simp)) dX2_with_14 (show (sz s1 - sz σ) + (tp - sz s1) ≤ tp - sz σ ∧ 9 * (sz s1 - sz σ) + 9 * (tp - sz s1) ≤ 9 * (tp - sz σ) by have q1 := hm.2.1; have q2 := hm.2.2; omega)) hg (fun r6 s5 H locs hz7 hm2 h hg => ?_)
  have hS8 : ∀ b, a1 = some b → sS s5 b := (fun b h0 => hm2.1 b (hS4 b h0))
  have hS9 : ∀ b, r2 = some b → sS s5 b := (fun b h0 => hm2.1 b (hz3 b h0))
  have hm := hm.ta hm2
  refine W_narrow hg hH (show sz s5 ≤ sz σ + (sz s5 - sz σ) by have q1 := hm.2.1; omega) (Nat.le_refl _) ?_
  refine lv_iconst (v := iI 0) hx hb dX2_with_17 (by decide) ?_
  refine call_r (run_V (a := ea E 1) (As := [va_rf (r2), .int (iI (a2)), .int (iI (a3)), va_rf (r6), .int (iI (0))]) (rest := []) ⟨hx, hb, hml, hown, hts⟩ (ctX2_join l E 44 tp r2 a2 a3 r6 0 s5 _ hS9 ha2 ha3 hz7 (by decide) hm.2.2 h) (cwV 5 hts gX2_with_X2_join rfl rfl rfl ⟨rfl, hdX2_join⟩ ⟨Nat.le_of_ble_eq_true rfl, Nat.le_of_ble_eq_true rfl⟩) hK hN hg (recv_x (ci := 2) (C := RX2) (T := TX2) (N := 4) hg hK (by decide) rfl (by decide) rfl) rfl hl.1 rfl (cat_sum _ (by simp)) dX2_with_18 (show (sz s5 - sz σ) + (tp - sz s5) ≤ tp - sz σ ∧ 9 * (sz s5 - sz σ) + 9 * (tp - sz s5) ≤ 9 * (tp - sz σ) by have q1 := hm.2.1; have q2 := hm.2.2; omega)) hg (fun r11 s10 H locs hz12 hm2 h hg => ?_)
  have hS13 : ∀ b, a1 = some b → sS s10 b := (fun b h0 => hm2.1 b (hS8 b h0))
  have hm := hm.ta hm2
  refine W_narrow hg hH (show sz s10 ≤ sz σ + (sz s10 - sz σ) by have q1 := hm.2.1; omega) (Nat.le_refl _) ?_
  refine W.widen (k := tp - sz σ) (n := 9 * (tp - sz σ)) (show sz s10 - sz σ ≤ _ by have q1 := hm.2.2; omega) (show 9 * (sz s10 - sz σ) ≤ _ by have q1 := hm.2.2; omega) ?_
  exact ret_r hx hb hr hlocks hg hz12 hm h dX2_with_21
theorem hdX0_act : yX0_act.cls ≠ "java/lang/invoke/MethodHandle" ∧ yX0_act.cls ≠ "java/lang/invoke/VarHandle" ∧ (parseMethodDescriptor yX0_act.desc).map (fun d => d.parameters.length) = some 2 := by decide +kernel
set_option maxRecDepth 100000 in
set_option maxHeartbeats 4000000 in
theorem ctX0_act (l : Launch) (E : Ev) (tp : Nat) (a1 : Int) (a2 : Int) (σ : SS) (Q : SS → Prop) (ha1 : R32 a1) (ha2 : R32 a2) (ht : sz σ ≤ tp) (h : wX0_act tp a1 a2 σ Q) : Met l yX0_act wsX0_act ({ frames := 95, cells := tp - sz σ, slots := 9 * (tp - sz σ), locals := 2431 } : Room) (Pc E σ [.ref (ea E 12), .int (iI (a1)), .int (iI (a2))]) (Qv E tp σ Q) (tp - sz σ) (9 * (tp - sz σ)) (Av E) := by
  rw [wX0_act] at h
  refine Met.ofW (cc := cX0_act) (maxL := 3) (ret := none) (by decide) rfl ?_
  intro p e s m args below meth c s₁ B hml hv
  obtain ⟨rfl, hH, hK, hN⟩ := hv
  have hx := B.exec
  have hb := B.bytes
  have hr := B.returns
  have hts := atoms_spec (ws := wsX0_act) B.pre
  have hown : s.vm.findClass RX0 = some m.cls := findClass_of_methodNamed B.named
  have hlocks := B.notSynchronized
  have hg : GS E σ s s.heap [] := ⟨hH, va_S.rf⟩
  have hm : Mo tp σ σ := Mo.rf ht
  have hl := ent (vs := [.ref (ea E 12), .int (iI (a1)), .int (iI (a2))]) (n := 3) (cats_x (cats_i (cats_i cats_nil))) (Nat.le_of_ble_eq_true rfl)
  rw [lg_entry_eq]
  generalize (lg_sl ([.ref (ea E 12), .int (iI (a1)), .int (iI (a2))]) ++ List.replicate (3 - (lg_sl ([.ref (ea E 12), .int (iI (a1)), .int (iI (a2))])).length) Slot.unset).toArray = ls at hl ⊢
  have hl : lv_has ls 3 [(0, .ref (ea E 12)), (1, .int (iI (a1))), (2, .int (iI (a2)))] := hl
  refine W_narrow hg hH (show sz σ ≤ sz σ + (sz σ - sz σ) by omega) (show 9 * (sz σ - sz σ) ≤ 9 * (sz σ - sz σ) from Nat.le_refl _) ?_
  refine lv_iload_n hx hb dX0_act_0 rfl (lv_at hl 1 rfl) ?_
  rcases (show (a1 < 4 ∨ 7 < a1) ∨ a1 = 4 ∨ a1 = 5 ∨ a1 = 6 ∨ a1 = 7 by omega) with c0 | c0 | c0 | c0 | c0
  · have h := h.1 c0
    refine lv_tableOut (tgt := 84) hx hb dX0_act_1 (by rw [iI_int ha1]; omega) (by decide) ?_
    refine lv_aload_n hx hb dX0_act_84 rfl (lv_at hl 0 rfl) ?_
    refine q_null hx hb dX0_act_85 ?_
    refine call_v (run_V (a := ea E 12) (As := [va_rf (none)]) (rest := []) ⟨hx, hb, hml, hown, hts⟩ (ctX0_push l E none σ _ (fun b h0 => by cases h0) h) (cwV 1 hts gX0_act_X0_push rfl rfl rfl ⟨rfl, hdX0_push⟩ ⟨Nat.le_of_ble_eq_true rfl, Nat.le_of_ble_eq_true rfl⟩) hK hN hg (recv_x (ci := 0) (C := RX0) (T := TX0) (N := 4) hg hK (by decide) rfl (by decide) rfl) rfl hl.1 rfl (cat_sum _ (by simp)) dX0_act_86 (show (sz σ - sz σ) + 0 ≤ tp - sz σ ∧ 9 * (sz σ - sz σ) + 0 ≤ 9 * (tp - sz σ) by have q1 := hm.2.1; have q2 := hm.2.2; omega)) hg (fun s1 H locs hm2 h hg => ?_)
    have hm := hm.tn hm2
    refine W_narrow hg hH (show sz s1 ≤ sz σ + (sz s1 - sz σ) by have q1 := hm.2.1; omega) (Nat.le_refl _) ?_
    refine W.widen (k := tp - sz σ) (n := 9 * (tp - sz σ)) (show sz s1 - sz σ ≤ _ by have q1 := hm.2.2; omega) (show 9 * (sz s1 - sz σ) ≤ _ by have q1 := hm.2.2; omega) ?_
    exact ret_v hx hb hr hlocks hg hm h dX0_act_89
  · have h := h.2.1 c0
    refine lv_tableIn (off := 31) (tgt := 32) hx hb dX0_act_1 (by rw [iI_int ha1, c0]; decide) (by rw [iI_int ha1, c0]; decide) (by rw [iI_int ha1, c0]; rfl) (by decide) ?_
    refine lv_aload_n hx hb dX0_act_32 rfl (lv_at hl 0 rfl) ?_
    refine lv_iload_n hx hb dX0_act_33 rfl (lv_at hl 2 rfl) ?_
    refine call_z (run_SN (As := [.int (iI (a2))]) (rest := [.ref (ea E 12)]) ⟨hx, hb, hml, hown, hts⟩ (ctX8_isMap l E a2 σ _ ha2 h) ⟨va_cnB 1 hts gX0_act_X8_isMap_n28 rfl rfl rfl (hN 0 _ rfl) (hts (.initialized RX8) (List.mem_cons_of_mem _ (List.mem_append_left _ (List.mem_append_left _ (List.mem_append_left _ (List.mem_append_left _ (List.mem_of_getElem? (i := 3) rfl))))))) hdX8_isMap ⟨Nat.le_of_ble_eq_true rfl, Nat.le_of_ble_eq_true rfl⟩, (hts (.static yX8_isMap) (List.mem_cons_of_mem _ (List.mem_append_left _ (List.mem_append_left _ (List.mem_append_left _ (List.mem_append_left _ (List.mem_of_getElem? (i := 2) rfl))))))), trivial⟩ hK hN hg rfl hl.1 rfl (cat_sum _ (by simp)) dX0_act_34 (show (sz σ - sz σ) + 0 ≤ tp - sz σ ∧ 9 * (sz σ - sz σ) + 0 ≤ 9 * (tp - sz σ) by have q1 := hm.2.1; have q2 := hm.2.2; omega)) hg (fun r5 s4 H locs hz6 hm2 h hg => ?_)
    have hm := hm.tn hm2
    refine W_narrow hg hH (show sz s4 ≤ sz σ + (sz s4 - sz σ) by have q1 := hm.2.1; omega) (Nat.le_refl _) ?_
    refine k_eq (tgt := 49) hx hb dX0_act_37 (by decide) (z_R hz6) (fun c7 => ?_) (fun c7 => ?_)
    · have h := h.1 c7
      refine q_null hx hb dX0_act_49 ?_
      refine call_v (run_V (a := ea E 12) (As := [va_rf (none)]) (rest := []) ⟨hx, hb, hml, hown, hts⟩ (ctX0_push l E none s4 _ (fun b h0 => by cases h0) h) (cwV 1 hts gX0_act_X0_push rfl rfl rfl ⟨rfl, hdX0_push⟩ ⟨Nat.le_of_ble_eq_true rfl, Nat.le_of_ble_eq_true rfl⟩) hK hN hg (recv_x (ci := 0) (C := RX0) (T := TX0) (N := 4) hg hK (by decide) rfl (by decide) rfl) rfl hl.1 rfl (cat_sum _ (by simp)) dX0_act_50 (show (sz s4 - sz σ) + 0 ≤ tp - sz σ ∧ 9 * (sz s4 - sz σ) + 0 ≤ 9 * (tp - sz σ) by have q1 := hm.2.1; have q2 := hm.2.2; omega)) hg (fun s8 H locs hm2 h hg => ?_)
      have hm := hm.tn hm2
      refine W_narrow hg hH (show sz s8 ≤ sz σ + (sz s8 - sz σ) by have q1 := hm.2.1; omega) (Nat.le_refl _) ?_
      refine lv_goto (tgt := 89) hx hb dX0_act_53 (by decide) ?_
      refine W.widen (k := tp - sz σ) (n := 9 * (tp - sz σ)) (show sz s8 - sz σ ≤ _ by have q1 := hm.2.2; omega) (show 9 * (sz s8 - sz σ) ≤ _ by have q1 := hm.2.2; omega) ?_
      exact ret_v hx hb hr hlocks hg hm h dX0_act_89
    · have h := h.2 c7
      refine lv_aload_n hx hb dX0_act_40 rfl (lv_at hl 0 rfl) ?_
      refine q_getx (ci := 0) (C := RX0) (T := TX0) (N := 4) (j := 13) hx hb hts (fun _ h9 => List.mem_cons_of_mem _ (List.mem_append_left _ (List.mem_append_left _ (List.mem_append_right _ h9)))) hown hK hg 12 (by decide) rfl rfl (by decide) rfl 0 (by decide) (hts (.fieldLink RX0 11 "JoinMaps$Bench" "maps" "[LJoinMaps$Node;") (List.mem_cons_of_mem _ (List.mem_append_left _ (List.mem_append_left _ (List.mem_append_left _ (List.mem_append_left _ (List.mem_of_getElem? (i := 0) rfl))))))) rfl rfl rfl dX0_act_41 ?_
      refine lv_iload_n hx hb dX0_act_44 rfl (lv_at hl 2 rfl) ?_
      obtain ⟨hP11, hP12, h⟩ := h
      refine q_aald (N := 6) hx hb hK hg 13 (by decide) rfl rfl hP11 hP12 (by decide) dX0_act_45 ?_
      have hS13 : ∀ b, (sf s4 13 (a2 : Int).toNat) = some b → sS s4 b := fun b h0 => GS_F hg h0
      refine lv_goto (tgt := 50) hx hb dX0_act_46 (by decide) ?_
      refine call_v (run_V (a := ea E 12) (As := [va_rf ((sf s4 13 (a2 : Int).toNat))]) (rest := []) ⟨hx, hb, hml, hown, hts⟩ (ctX0_push l E (sf s4 13 (a2 : Int).toNat) s4 _ hS13 h) (cwV 1 hts gX0_act_X0_push rfl rfl rfl ⟨rfl, hdX0_push⟩ ⟨Nat.le_of_ble_eq_true rfl, Nat.le_of_ble_eq_true rfl⟩) hK hN hg (recv_x (ci := 0) (C := RX0) (T := TX0) (N := 4) hg hK (by decide) rfl (by decide) rfl) rfl hl.1 rfl (cat_sum _ (by simp)) dX0_act_50 (show (sz s4 - sz σ) + 0 ≤ tp - sz σ ∧ 9 * (sz s4 - sz σ) + 0 ≤ 9 * (tp - sz σ) by have q1 := hm.2.1; have q2 := hm.2.2; omega)) hg (fun s14 H locs hm2 h hg => ?_)
      have hm := hm.tn hm2
      refine W_narrow hg hH (show sz s14 ≤ sz σ + (sz s14 - sz σ) by have q1 := hm.2.1; omega) (Nat.le_refl _) ?_
      refine lv_goto (tgt := 89) hx hb dX0_act_53 (by decide) ?_
      refine W.widen (k := tp - sz σ) (n := 9 * (tp - sz σ)) (show sz s14 - sz σ ≤ _ by have q1 := hm.2.2; omega) (show 9 * (sz s14 - sz σ) ≤ _ by have q1 := hm.2.2; omega) ?_
      exact ret_v hx hb hr hlocks hg hm h dX0_act_89
  · have h := h.2.2.1 c0
    refine lv_tableIn (off := 83) (tgt := 84) hx hb dX0_act_1 (by rw [iI_int ha1, c0]; decide) (by rw [iI_int ha1, c0]; decide) (by rw [iI_int ha1, c0]; rfl) (by decide) ?_
    refine lv_aload_n hx hb dX0_act_84 rfl (lv_at hl 0 rfl) ?_
    refine q_null hx hb dX0_act_85 ?_
    refine call_v (run_V (a := ea E 12) (As := [va_rf (none)]) (rest := []) ⟨hx, hb, hml, hown, hts⟩ (ctX0_push l E none σ _ (fun b h0 => by cases h0) h) (cwV 1 hts gX0_act_X0_push rfl rfl rfl ⟨rfl, hdX0_push⟩ ⟨Nat.le_of_ble_eq_true rfl, Nat.le_of_ble_eq_true rfl⟩) hK hN hg (recv_x (ci := 0) (C := RX0) (T := TX0) (N := 4) hg hK (by decide) rfl (by decide) rfl) rfl hl.1 rfl (cat_sum _ (by simp)) dX0_act_86 (show (sz σ - sz σ) + 0 ≤ tp - sz σ ∧ 9 * (sz σ - sz σ) + 0 ≤ 9 * (tp - sz σ) by have q1 := hm.2.1; have q2 := hm.2.2; omega)) hg (fun s17 H locs hm2 h hg => ?_)
    have hm := hm.tn hm2
    refine W_narrow hg hH (show sz s17 ≤ sz σ + (sz s17 - sz σ) by have q1 := hm.2.1; omega) (Nat.le_refl _) ?_
    refine W.widen (k := tp - sz σ) (n := 9 * (tp - sz σ)) (show sz s17 - sz σ ≤ _ by have q1 := hm.2.2; omega) (show 9 * (sz s17 - sz σ) ≤ _ by have q1 := hm.2.2; omega) ?_
    exact ret_v hx hb hr hlocks hg hm h dX0_act_89
  · have h := h.2.2.2.1 c0
    refine lv_tableIn (off := 55) (tgt := 56) hx hb dX0_act_1 (by rw [iI_int ha1, c0]; decide) (by rw [iI_int ha1, c0]; decide) (by rw [iI_int ha1, c0]; rfl) (by decide) ?_
    refine lv_aload_n hx hb dX0_act_56 rfl (lv_at hl 0 rfl) ?_
    refine lv_aload_n hx hb dX0_act_57 rfl (lv_at hl 0 rfl) ?_
    refine q_getx (ci := 0) (C := RX0) (T := TX0) (N := 4) (j := 1) hx hb hts (fun _ h9 => List.mem_cons_of_mem _ (List.mem_append_left _ (List.mem_append_left _ (List.mem_append_right _ h9)))) hown hK hg 12 (by decide) rfl rfl (by decide) rfl 2 (by decide) (hts (.fieldLink RX0 20 "JoinMaps$Bench" "grove" "LJoinMaps$Grove;") (List.mem_cons_of_mem _ (List.mem_append_left _ (List.mem_append_left _ (List.mem_append_left _ (List.mem_append_left _ (List.mem_of_getElem? (i := 1) rfl))))))) rfl rfl rfl dX0_act_58 ?_
    refine lv_aload_n hx hb dX0_act_61 rfl (lv_at hl 0 rfl) ?_
    refine call_r (run_V (a := ea E 12) (As := []) (rest := [.ref (ea E 1), .ref (ea E 12)]) ⟨hx, hb, hml, hown, hts⟩ (ctX0_pop l E  σ _  h) (cwV 0 hts gX0_act_X0_pop rfl rfl rfl ⟨rfl, hdX0_pop⟩ ⟨Nat.le_of_ble_eq_true rfl, Nat.le_of_ble_eq_true rfl⟩) hK hN hg (recv_x (ci := 0) (C := RX0) (T := TX0) (N := 4) hg hK (by decide) rfl (by decide) rfl) rfl hl.1 rfl (cat_sum _ (by simp)) dX0_act_62 (show (sz σ - sz σ) + 0 ≤ tp - sz σ ∧ 9 * (sz σ - sz σ) + 0 ≤ 9 * (tp - sz σ) by have q1 := hm.2.1; have q2 := hm.2.2; omega)) hg (fun r21 s20 H locs hz22 hm2 h hg => ?_)
    have hm := hm.tn hm2
    refine W_narrow hg hH (show sz s20 ≤ sz σ + (sz s20 - sz σ) by have q1 := hm.2.1; omega) (Nat.le_refl _) ?_
    refine lv_iload_n hx hb dX0_act_65 rfl (lv_at hl 2 rfl) ?_
    refine lv_iload_n hx hb dX0_act_66 rfl (lv_at hl 2 rfl) ?_
    refine call_r (run_V (a := ea E 1) (As := [va_rf (r21), .int (iI (a2)), .int (iI (a2))]) (rest := [.ref (ea E 12)]) ⟨hx, hb, hml, hown, hts⟩ (ctX2_with l E tp r21 a2 a2 s20 _ hz22 ha2 ha2 hm.2.2 h) (cwV 3 hts gX0_act_X2_with rfl rfl rfl ⟨rfl, hdX2_with⟩ ⟨Nat.le_of_ble_eq_true rfl, Nat.le_of_ble_eq_true rfl⟩) hK hN hg (recv_x (ci := 2) (C := RX2) (T := TX2) (N := 4) hg hK (by decide) rfl (by decide) rfl) rfl hl.1 rfl (cat_sum _ (by simp)) dX0_act_67 (show (sz s20 - sz σ) + (tp - sz s20) ≤ tp - sz σ ∧ 9 * (sz s20 - sz σ) + 9 * (tp - sz s20) ≤ 9 * (tp - sz σ) by have q1 := hm.2.1; have q2 := hm.2.2; omega)) hg (fun r24 s23 H locs hz25 hm2 h hg => ?_)
    have hm := hm.ta hm2
    refine W_narrow hg hH (show sz s23 ≤ sz σ + (sz s23 - sz σ) by have q1 := hm.2.1; omega) (Nat.le_refl _) ?_
    refine call_v (run_V (a := ea E 12) (As := [va_rf (r24)]) (rest := []) ⟨hx, hb, hml, hown, hts⟩ (ctX0_push l E r24 s23 _ hz25 h) (cwV 1 hts gX0_act_X0_push rfl rfl rfl ⟨rfl, hdX0_push⟩ ⟨Nat.le_of_ble_eq_true rfl, Nat.le_of_ble_eq_true rfl⟩) hK hN hg (recv_x (ci := 0) (C := RX0) (T := TX0) (N := 4) hg hK (by decide) rfl (by decide) rfl) rfl hl.1 rfl (cat_sum _ (by simp)) dX0_act_70 (show (sz s23 - sz σ) + 0 ≤ tp - sz σ ∧ 9 * (sz s23 - sz σ) + 0 ≤ 9 * (tp - sz σ) by have q1 := hm.2.1; have q2 := hm.2.2; omega)) hg (fun s26 H locs hm2 h hg => ?_)
    have hm := hm.tn hm2
    refine W_narrow hg hH (show sz s26 ≤ sz σ + (sz s26 - sz σ) by have q1 := hm.2.1; omega) (Nat.le_refl _) ?_
    refine lv_goto (tgt := 89) hx hb dX0_act_73 (by decide) ?_
    refine W.widen (k := tp - sz σ) (n := 9 * (tp - sz σ)) (show sz s26 - sz σ ≤ _ by have q1 := hm.2.2; omega) (show 9 * (sz s26 - sz σ) ≤ _ by have q1 := hm.2.2; omega) ?_
    exact ret_v hx hb hr hlocks hg hm h dX0_act_89
  · have h := h.2.2.2.2 c0
    refine lv_tableIn (off := 75) (tgt := 76) hx hb dX0_act_1 (by rw [iI_int ha1, c0]; decide) (by rw [iI_int ha1, c0]; decide) (by rw [iI_int ha1, c0]; rfl) (by decide) ?_
    refine lv_aload_n hx hb dX0_act_76 rfl (lv_at hl 0 rfl) ?_
    refine lv_iload_n hx hb dX0_act_77 rfl (lv_at hl 2 rfl) ?_
    refine call_v (run_V (a := ea E 12) (As := [.int (iI (a2))]) (rest := []) ⟨hx, hb, hml, hown, hts⟩ (ctX0_store l E a2 σ _ ha2 h) (cwV 1 hts gX0_act_X0_store rfl rfl rfl ⟨rfl, hdX0_store⟩ ⟨Nat.le_of_ble_eq_true rfl, Nat.le_of_ble_eq_true rfl⟩) hK hN hg (recv_x (ci := 0) (C := RX0) (T := TX0) (N := 4) hg hK (by decide) rfl (by decide) rfl) rfl hl.1 rfl (cat_sum _ (by simp)) dX0_act_78 (show (sz σ - sz σ) + 0 ≤ tp - sz σ ∧ 9 * (sz σ - sz σ) + 0 ≤ 9 * (tp - sz σ) by have q1 := hm.2.1; have q2 := hm.2.2; omega)) hg (fun s29 H locs hm2 h hg => ?_)
    have hm := hm.tn hm2
    refine W_narrow hg hH (show sz s29 ≤ sz σ + (sz s29 - sz σ) by have q1 := hm.2.1; omega) (Nat.le_refl _) ?_
    refine lv_goto (tgt := 89) hx hb dX0_act_81 (by decide) ?_
    refine W.widen (k := tp - sz σ) (n := 9 * (tp - sz σ)) (show sz s29 - sz σ ≤ _ by have q1 := hm.2.2; omega) (show 9 * (sz s29 - sz σ) ≤ _ by have q1 := hm.2.2; omega) ?_
    exact ret_v hx hb hr hlocks hg hm h dX0_act_89
theorem hdX8_held : yX8_held.cls ≠ "java/lang/invoke/MethodHandle" ∧ yX8_held.cls ≠ "java/lang/invoke/VarHandle" ∧ (parseMethodDescriptor yX8_held.desc).map (fun d => d.parameters.length) = some 1 := by decide +kernel
set_option maxRecDepth 100000 in
set_option maxHeartbeats 4000000 in
theorem ctX8_held (l : Launch) (E : Ev) (a0 : Int) (σ : SS) (Q : Int → SS → Prop) (ha0 : R32 a0) (h : wX8_held a0 σ Q) : Met l yX8_held wsX8_held ({ frames := 1, cells := 0, slots := 0, locals := 21 } : Room) (Pc E σ [.int (iI (a0))]) (Qi E (sz σ) σ Q) 0 0 (Av E) := by
  rw [wX8_held] at h
  refine Met.ofW (cc := cX8_held) (maxL := 1) (ret := (some .int)) (by decide) rfl ?_
  intro p e s m args below meth c s₁ B hml hv
  obtain ⟨rfl, hH, hK, hN⟩ := hv
  have hx := B.exec
  have hb := B.bytes
  have hr := B.returns
  have hts := atoms_spec (ws := wsX8_held) B.pre
  have hown : s.vm.findClass RX8 = some m.cls := findClass_of_methodNamed B.named
  have hlocks := B.notSynchronized
  have hg : GS E σ s s.heap [] := ⟨hH, va_S.rf⟩
  have hm : Mo (sz σ) σ σ := Mo.rf (Nat.le_refl _)
  have hl := ent (vs := [.int (iI (a0))]) (n := 1) (cats_i cats_nil) (Nat.le_of_ble_eq_true rfl)
  rw [lg_entry_eq]
  generalize (lg_sl ([.int (iI (a0))]) ++ List.replicate (1 - (lg_sl ([.int (iI (a0))])).length) Slot.unset).toArray = ls at hl ⊢
  have hl : lv_has ls 1 [(0, .int (iI (a0)))] := hl
  refine q_ldcw (z := (-1000000)) hx hb hown (hts (.constant RX8 295 (-1000000)) (List.mem_cons_of_mem _ (List.mem_of_getElem? (i := 0) rfl))) (by decide) dX8_held_0 ?_
  refine q_ldcw (z := 1000000) hx hb hown (hts (.constant RX8 296 (1000000)) (List.mem_cons_of_mem _ (List.mem_of_getElem? (i := 1) rfl))) (by decide) dX8_held_3 ?_
  refine lv_iload_n hx hb dX8_held_6 rfl (lv_at hl 0 rfl) ?_
  refine q_min hx hb (by rw [hml]; exact hl.1.symm) hown (hts (.methodLink RX8 206 Lib.Math.min.name) (List.mem_cons_of_mem _ (List.mem_of_getElem? (i := 2) rfl))) (hts (.static Lib.Math.min.name) (List.mem_cons_of_mem _ (List.mem_of_getElem? (i := 3) rfl))) (hts (.initialized "java/lang/Math") (List.mem_cons_of_mem _ (List.mem_of_getElem? (i := 4) rfl))) (hts (.code Lib.Math.min.name Lib.Math.min.code 2 (some .int)) (List.mem_cons_of_mem _ (List.mem_of_getElem? (i := 5) rfl))) (Nat.le_of_ble_eq_true rfl) (by simp) (Nat.le_of_ble_eq_true rfl) (Nat.le_refl 0) (Nat.le_refl 0) (by decide) ha0 dX8_held_7 ?_
  have hR1 : R32 (min 1000000 a0) := by have q1 : R32 1000000 := (by decide); have q2 : R32 a0 := ha0; omega
  refine q_max hx hb (by rw [hml]; exact hl.1.symm) hown (hts (.methodLink RX8 158 Lib.Math.max.name) (List.mem_cons_of_mem _ (List.mem_of_getElem? (i := 6) rfl))) (hts (.static Lib.Math.max.name) (List.mem_cons_of_mem _ (List.mem_of_getElem? (i := 7) rfl))) (hts (.initialized "java/lang/Math") (List.mem_cons_of_mem _ (List.mem_of_getElem? (i := 4) rfl))) (hts (.code Lib.Math.max.name Lib.Math.max.code 2 (some .int)) (List.mem_cons_of_mem _ (List.mem_of_getElem? (i := 8) rfl))) (Nat.le_of_ble_eq_true rfl) (by simp) (Nat.le_of_ble_eq_true rfl) (Nat.le_refl 0) (Nat.le_refl 0) (by decide) hR1 dX8_held_10 ?_
  have hR2 : R32 (max (-1000000) (min 1000000 a0)) := by have q1 : R32 (-1000000) := (by decide); have q2 : R32 (min 1000000 a0) := hR1; omega
  exact ret_i hx hb hr hlocks hg hR2 hm h dX8_held_13
theorem hdX1_mixed : yX1_mixed.cls ≠ "java/lang/invoke/MethodHandle" ∧ yX1_mixed.cls ≠ "java/lang/invoke/VarHandle" ∧ (parseMethodDescriptor yX1_mixed.desc).map (fun d => d.parameters.length) = some 2 := by decide +kernel
set_option maxRecDepth 100000 in
set_option maxHeartbeats 4000000 in
theorem ctX1_mixed (l : Launch) (E : Ev) (a1 : Int) (a2 : Int) (σ : SS) (Q : Int → SS → Prop) (ha1 : R32 a1) (ha2 : R32 a2) (h : wX1_mixed a1 a2 σ Q) : Met l yX1_mixed wsX1_mixed ({ frames := 2, cells := 0, slots := 0, locals := 41 } : Room) (Pc E σ [.ref (ea E 2), .int (iI (a1)), .int (iI (a2))]) (Qi E (sz σ) σ Q) 0 0 (Av E) := by
  rw [wX1_mixed] at h
  refine Met.ofW (cc := cX1_mixed) (maxL := 3) (ret := (some .int)) (by decide) rfl ?_
  intro p e s m args below meth c s₁ B hml hv
  obtain ⟨rfl, hH, hK, hN⟩ := hv
  have hx := B.exec
  have hb := B.bytes
  have hr := B.returns
  have hts := atoms_spec (ws := wsX1_mixed) B.pre
  have hown : s.vm.findClass RX1 = some m.cls := findClass_of_methodNamed B.named
  have hlocks := B.notSynchronized
  have hg : GS E σ s s.heap [] := ⟨hH, va_S.rf⟩
  have hm : Mo (sz σ) σ σ := Mo.rf (Nat.le_refl _)
  have hl := ent (vs := [.ref (ea E 2), .int (iI (a1)), .int (iI (a2))]) (n := 3) (cats_x (cats_i (cats_i cats_nil))) (Nat.le_of_ble_eq_true rfl)
  rw [lg_entry_eq]
  generalize (lg_sl ([.ref (ea E 2), .int (iI (a1)), .int (iI (a2))]) ++ List.replicate (3 - (lg_sl ([.ref (ea E 2), .int (iI (a1)), .int (iI (a2))])).length) Slot.unset).toArray = ls at hl ⊢
  have hl : lv_has ls 3 [(0, .ref (ea E 2)), (1, .int (iI (a1))), (2, .int (iI (a2)))] := hl
  refine lv_aload_n hx hb dX1_mixed_0 rfl (lv_at hl 0 rfl) ?_
  refine q_geti (ci := 1) (C := RX1) (T := TX1) (N := 2) hx hb hts (fun _ h9 => List.mem_cons_of_mem _ (List.mem_append_right _ h9)) hown hK hg 2 (by decide) rfl rfl (by decide) rfl 1 (by decide) (hts (.fieldLink RX1 60 "JoinMaps$Blender" "mixerKind" "I") (List.mem_cons_of_mem _ (List.mem_append_left _ (List.mem_of_getElem? (i := 0) rfl)))) rfl rfl dX1_mixed_1 ?_
  have hR1 := GS_R hg 2 1
  rcases (show ((sn σ 2 1) < 1 ∨ 5 < (sn σ 2 1)) ∨ (sn σ 2 1) = 1 ∨ (sn σ 2 1) = 2 ∨ (sn σ 2 1) = 3 ∨ (sn σ 2 1) = 4 ∨ (sn σ 2 1) = 5 by omega) with c0 | c0 | c0 | c0 | c0 | c0
  · have h := h.1 c0
    refine lv_tableOut (tgt := 79) hx hb dX1_mixed_4 (by rw [iI_int hR1]; omega) (by decide) ?_
    refine lv_iload_n hx hb dX1_mixed_79 rfl (lv_at hl 1 rfl) ?_
    exact ret_i hx hb hr hlocks hg ha1 hm h dX1_mixed_80
  · have h := h.2.1 c0
    refine lv_tableIn (off := 36) (tgt := 40) hx hb dX1_mixed_4 (by rw [iI_int hR1, c0]; decide) (by rw [iI_int hR1, c0]; decide) (by rw [iI_int hR1, c0]; rfl) (by decide) ?_
    refine lv_iload_n hx hb dX1_mixed_40 rfl (lv_at hl 2 rfl) ?_
    exact ret_i hx hb hr hlocks hg ha2 hm h dX1_mixed_41
  · have h := h.2.2.1 c0
    refine lv_tableIn (off := 38) (tgt := 42) hx hb dX1_mixed_4 (by rw [iI_int hR1, c0]; decide) (by rw [iI_int hR1, c0]; decide) (by rw [iI_int hR1, c0]; rfl) (by decide) ?_
    refine lv_iload_n hx hb dX1_mixed_42 rfl (lv_at hl 2 rfl) ?_
    refine lv_iload_n hx hb dX1_mixed_43 rfl (lv_at hl 1 rfl) ?_
    refine q_iadd hx hb dX1_mixed_44 ?_
    obtain ⟨hR2, h⟩ := h
    refine call_i (run_SN (As := [.int (iI ((a2 + a1)))]) (rest := []) ⟨hx, hb, hml, hown, hts⟩ (ctX8_held l E (a2 + a1) σ _ hR2 h) ⟨va_cnB 1 hts gX1_mixed_X8_held_n63 rfl rfl rfl (hN 1 _ rfl) (hts (.initialized RX8) (List.mem_cons_of_mem _ (List.mem_append_left _ (List.mem_of_getElem? (i := 6) rfl)))) hdX8_held ⟨Nat.le_of_ble_eq_true rfl, Nat.le_of_ble_eq_true rfl⟩, (hts (.static yX8_held) (List.mem_cons_of_mem _ (List.mem_append_left _ (List.mem_of_getElem? (i := 5) rfl)))), trivial⟩ hK hN hg rfl hl.1 rfl (cat_sum _ (by simp)) dX1_mixed_45 ⟨Nat.le_refl 0, Nat.le_refl 0⟩) hg (fun r4 s3 H locs hz5 hm2 h hg => ?_)
    have hm := hm.tn hm2
    exact ret_i hx hb hr hlocks hg hz5 hm h dX1_mixed_48
  · have h := h.2.2.2.1 c0
    refine lv_tableIn (off := 45) (tgt := 49) hx hb dX1_mixed_4 (by rw [iI_int hR1, c0]; decide) (by rw [iI_int hR1, c0]; decide) (by rw [iI_int hR1, c0]; rfl) (by decide) ?_
    refine lv_iload_n hx hb dX1_mixed_49 rfl (lv_at hl 1 rfl) ?_
    refine lv_iload_n hx hb dX1_mixed_50 rfl (lv_at hl 2 rfl) ?_
    refine q_max hx hb (by rw [hml]; exact hl.1.symm) hown (hts (.methodLink RX1 67 Lib.Math.max.name) (List.mem_cons_of_mem _ (List.mem_append_left _ (List.mem_of_getElem? (i := 1) rfl)))) (hts (.static Lib.Math.max.name) (List.mem_cons_of_mem _ (List.mem_append_left _ (List.mem_of_getElem? (i := 2) rfl)))) (hts (.initialized "java/lang/Math") (List.mem_cons_of_mem _ (List.mem_append_left _ (List.mem_of_getElem? (i := 3) rfl)))) (hts (.code Lib.Math.max.name Lib.Math.max.code 2 (some .int)) (List.mem_cons_of_mem _ (List.mem_append_left _ (List.mem_of_getElem? (i := 4) rfl)))) (Nat.le_of_ble_eq_true rfl) (by simp) (Nat.le_of_ble_eq_true rfl) (Nat.le_refl 0) (Nat.le_refl 0) ha1 ha2 dX1_mixed_51 ?_
    have hR6 : R32 (max a1 a2) := by have q1 := ha1; have q2 := ha2; omega
    exact ret_i hx hb hr hlocks hg hR6 hm h dX1_mixed_54
  · have h := h.2.2.2.2.1 c0
    refine lv_tableIn (off := 51) (tgt := 55) hx hb dX1_mixed_4 (by rw [iI_int hR1, c0]; decide) (by rw [iI_int hR1, c0]; decide) (by rw [iI_int hR1, c0]; rfl) (by decide) ?_
    refine lv_iload_n hx hb dX1_mixed_55 rfl (lv_at hl 1 rfl) ?_
    refine lv_iload_n hx hb dX1_mixed_56 rfl (lv_at hl 2 rfl) ?_
    refine q_iadd hx hb dX1_mixed_57 ?_
    refine lv_iload_n hx hb dX1_mixed_58 rfl (lv_at hl 1 rfl) ?_
    refine lv_iload_n hx hb dX1_mixed_59 rfl (lv_at hl 2 rfl) ?_
    refine q_max hx hb (by rw [hml]; exact hl.1.symm) hown (hts (.methodLink RX1 67 Lib.Math.max.name) (List.mem_cons_of_mem _ (List.mem_append_left _ (List.mem_of_getElem? (i := 1) rfl)))) (hts (.static Lib.Math.max.name) (List.mem_cons_of_mem _ (List.mem_append_left _ (List.mem_of_getElem? (i := 2) rfl)))) (hts (.initialized "java/lang/Math") (List.mem_cons_of_mem _ (List.mem_append_left _ (List.mem_of_getElem? (i := 3) rfl)))) (hts (.code Lib.Math.max.name Lib.Math.max.code 2 (some .int)) (List.mem_cons_of_mem _ (List.mem_append_left _ (List.mem_of_getElem? (i := 4) rfl)))) (Nat.le_of_ble_eq_true rfl) (by simp) (Nat.le_of_ble_eq_true rfl) (Nat.le_refl 0) (Nat.le_refl 0) ha1 ha2 dX1_mixed_60 ?_
    have hR7 : R32 (max a1 a2) := by have q1 := ha1; have q2 := ha2; omega
    refine q_isub hx hb dX1_mixed_63 ?_
    obtain ⟨hR8, h⟩ := h
    exact ret_i hx hb hr hlocks hg hR8 hm h dX1_mixed_64
  · have h := h.2.2.2.2.2 c0
    refine lv_tableIn (off := 61) (tgt := 65) hx hb dX1_mixed_4 (by rw [iI_int hR1, c0]; decide) (by rw [iI_int hR1, c0]; decide) (by rw [iI_int hR1, c0]; rfl) (by decide) ?_
    refine lv_iload_n hx hb dX1_mixed_65 rfl (lv_at hl 2 rfl) ?_
    refine lv_iload_n hx hb dX1_mixed_66 rfl (lv_at hl 1 rfl) ?_
    refine q_iadd hx hb dX1_mixed_67 ?_
    obtain ⟨hR9, h⟩ := h
    refine call_i (run_SN (As := [.int (iI ((a2 + a1)))]) (rest := []) ⟨hx, hb, hml, hown, hts⟩ (ctX8_held l E (a2 + a1) σ _ hR9 h) ⟨va_cnB 1 hts gX1_mixed_X8_held_n63 rfl rfl rfl (hN 1 _ rfl) (hts (.initialized RX8) (List.mem_cons_of_mem _ (List.mem_append_left _ (List.mem_of_getElem? (i := 6) rfl)))) hdX8_held ⟨Nat.le_of_ble_eq_true rfl, Nat.le_of_ble_eq_true rfl⟩, (hts (.static yX8_held) (List.mem_cons_of_mem _ (List.mem_append_left _ (List.mem_of_getElem? (i := 5) rfl)))), trivial⟩ hK hN hg rfl hl.1 rfl (cat_sum _ (by simp)) dX1_mixed_68 ⟨Nat.le_refl 0, Nat.le_refl 0⟩) hg (fun r11 s10 H locs hz12 hm2 h hg => ?_)
    have hm := hm.tn hm2
    refine lv_iconst (v := iI 2) hx hb dX1_mixed_71 (by decide) ?_
    refine lv_iload_n hx hb dX1_mixed_72 rfl (lv_at hl 2 rfl) ?_
    refine q_imul hx hb dX1_mixed_73 ?_
    refine q_isub hx hb dX1_mixed_74 ?_
    obtain ⟨hR13, h⟩ := h
    refine call_i (run_SN (As := [.int (iI ((r11 - (2 * a2))))]) (rest := []) ⟨hx, hb, hml, hown, hts⟩ (ctX8_held l E (r11 - (2 * a2)) s10 _ hR13 h) ⟨va_cnB 1 hts gX1_mixed_X8_held_n63 rfl rfl rfl (hN 1 _ rfl) (hts (.initialized RX8) (List.mem_cons_of_mem _ (List.mem_append_left _ (List.mem_of_getElem? (i := 6) rfl)))) hdX8_held ⟨Nat.le_of_ble_eq_true rfl, Nat.le_of_ble_eq_true rfl⟩, (hts (.static yX8_held) (List.mem_cons_of_mem _ (List.mem_append_left _ (List.mem_of_getElem? (i := 5) rfl)))), trivial⟩ hK hN hg rfl hl.1 rfl (cat_sum _ (by simp)) dX1_mixed_75 ⟨Nat.le_refl 0, Nat.le_refl 0⟩) hg (fun r15 s14 H locs hz16 hm2 h hg => ?_)
    have hm := hm.tn hm2
    exact ret_i hx hb hr hlocks hg hz16 hm h dX1_mixed_78
theorem hdX2_chain : yX2_chain.cls ≠ "java/lang/invoke/MethodHandle" ∧ yX2_chain.cls ≠ "java/lang/invoke/VarHandle" ∧ (parseMethodDescriptor yX2_chain.desc).map (fun d => d.parameters.length) = some 2 := by decide +kernel
set_option maxRecDepth 100000 in
set_option maxHeartbeats 4000000 in
theorem ctX2_chain (l : Launch) (E : Ev) (tp : Nat) (a1 : Option Nat) (a2 : Option Nat) (σ : SS) (Q : Option Nat → SS → Prop) (ha1 : ∀ b, a1 = some b → sS σ b) (ha2 : ∀ b, a2 = some b → sS σ b) (ht : sz σ ≤ tp) (h : wX2_chain tp a1 a2 σ Q) : Met l yX2_chain wsX2_chain ({ frames := 94, cells := tp - sz σ, slots := 9 * (tp - sz σ), locals := 2408 } : Room) (Pc E σ [.ref (ea E 1), va_rf (a1), va_rf (a2)]) (Qr E tp σ Q) (tp - sz σ) (9 * (tp - sz σ)) (Av E) := by
  rw [wX2_chain] at h
  refine Met.ofW (cc := cX2_chain) (maxL := 4) (ret := (some (.object "JoinMaps$Node"))) (by decide) rfl ?_
  intro p e s m args below meth c s₁ B hml hv
  obtain ⟨rfl, hH, hK, hN⟩ := hv
  have hx := B.exec
  have hb := B.bytes
  have hr := B.returns
  have hts := atoms_spec (ws := wsX2_chain) B.pre
  have hown : s.vm.findClass RX2 = some m.cls := findClass_of_methodNamed B.named
  have hlocks := B.notSynchronized
  have hg : GS E σ s s.heap [] := ⟨hH, va_S.rf⟩
  have hm : Mo tp σ σ := Mo.rf ht
  have hl := ent (vs := [.ref (ea E 1), va_rf (a1), va_rf (a2)]) (n := 4) (cats_x (cats_r (cats_r cats_nil))) (Nat.le_of_ble_eq_true rfl)
  rw [lg_entry_eq]
  generalize (lg_sl ([.ref (ea E 1), va_rf (a1), va_rf (a2)]) ++ List.replicate (4 - (lg_sl ([.ref (ea E 1), va_rf (a1), va_rf (a2)])).length) Slot.unset).toArray = ls at hl ⊢
  have hl : lv_has ls 4 [(0, .ref (ea E 1)), (1, va_rf (a1)), (2, va_rf (a2))] := hl
  refine W_narrow hg hH (show sz σ ≤ sz σ + (sz σ - sz σ) by omega) (show 9 * (sz σ - sz σ) ≤ 9 * (sz σ - sz σ) from Nat.le_refl _) ?_
  have J20 : ∀ (k : Nat), ∀ (v3 : Option Nat) (sL : SS) (H : Heap) (locs : List Loc) (ls : Array Slot), (∀ b, v3 = some b → sS sL b) → GS E sL s H locs → Mo tp σ sL → lv_has ls 4 [(0, .ref (ea E 1)), (1, va_rf (a1)), (2, va_rf (a2)), (3, va_rf (v3))] → wX2_chain_L20 tp a1 a2 Q  k v3 sL → W p l e (headSpec wsX2_chain ({ frames := 94, cells := tp - sz σ, slots := 9 * (tp - sz σ), locals := 2408 } : Room)).room s m (List.toArray [.ref (ea E 1), va_rf (a1), va_rf (a2)]) below meth c H locs (sz sL - sz σ) (9 * (sz sL - sz σ)) (MQ below (Qr E tp σ Q) (List.toArray [.ref (ea E 1), va_rf (a1), va_rf (a2)]) s (tp - sz σ) (9 * (tp - sz σ)) (Av E)) (F0 m 20 ls []) := by
    intro k
    induction k with
    | zero => intro v3 sL H locs ls mv3 hg hm hl h; exact False.elim h
    | succ k ih =>
      intro v3 sL H locs ls mv3 hg hm hl h
      rw [wX2_chain_L20] at h
      refine q_aload_n hx hb dX2_chain_20 rfl (lv_at hl 3 rfl) ?_
      obtain ⟨b9, c10, h⟩ := h
      refine q_ngetr_o c10 hx hb hts (fun _ h9 => List.mem_cons_of_mem _ (List.mem_append_left _ (List.mem_append_right _ h9))) hown hK hg (mv3 b9 c10) 4 (by decide) (hts (.fieldLink RX2 37 "JoinMaps$Node" "left" "LJoinMaps$Node;") (List.mem_cons_of_mem _ (List.mem_append_left _ (List.mem_append_left _ (List.mem_append_left _ (List.mem_of_getElem? (i := 0) rfl)))))) rfl rfl dX2_chain_21 ?_
      have hS11 : ∀ b, (sf sL (b9 + 64) 4) = some b → sS sL b := fun b h0 => GS_F hg h0
      refine j_null (tgt := 35) hx hb dX2_chain_24 (by decide) (fun c12 => ?_) (fun b13 c12 => ?_)
      · have h := h.1 c12
        refine lv_aload_n hx hb dX2_chain_35 rfl (lv_at hl 0 rfl) ?_
        refine q_aload_n hx hb dX2_chain_36 rfl (lv_at hl 1 rfl) ?_
        refine q_aload_n hx hb dX2_chain_37 rfl (lv_at hl 3 rfl) ?_
        refine q_ngeti_o c10 hx hb hts (fun _ h9 => List.mem_cons_of_mem _ (List.mem_append_left _ (List.mem_append_right _ h9))) hown hK hg (mv3 b9 c10) 0 (by decide) (hts (.fieldLink RX2 31 "JoinMaps$Node" "key" "I") (List.mem_cons_of_mem _ (List.mem_append_left _ (List.mem_append_left _ (List.mem_append_left _ (List.mem_of_getElem? (i := 1) rfl)))))) rfl rfl dX2_chain_38 ?_
        have hR14 := GS_R hg (b9 + 64) 0
        refine q_aload_n hx hb dX2_chain_41 rfl (lv_at hl 3 rfl) ?_
        refine q_ngeti_o c10 hx hb hts (fun _ h9 => List.mem_cons_of_mem _ (List.mem_append_left _ (List.mem_append_right _ h9))) hown hK hg (mv3 b9 c10) 1 (by decide) (hts (.fieldLink RX2 34 "JoinMaps$Node" "value" "I") (List.mem_cons_of_mem _ (List.mem_append_left _ (List.mem_append_left _ (List.mem_append_left _ (List.mem_of_getElem? (i := 2) rfl)))))) rfl rfl dX2_chain_42 ?_
        have hR15 := GS_R hg (b9 + 64) 1
        refine lv_aload_n hx hb dX2_chain_45 rfl (lv_at hl 0 rfl) ?_
        refine q_aload_n hx hb dX2_chain_46 rfl (lv_at hl 2 rfl) ?_
        refine q_aload_n hx hb dX2_chain_47 rfl (lv_at hl 3 rfl) ?_
        refine q_ngeti_o c10 hx hb hts (fun _ h9 => List.mem_cons_of_mem _ (List.mem_append_left _ (List.mem_append_right _ h9))) hown hK hg (mv3 b9 c10) 0 (by decide) (hts (.fieldLink RX2 31 "JoinMaps$Node" "key" "I") (List.mem_cons_of_mem _ (List.mem_append_left _ (List.mem_append_left _ (List.mem_append_left _ (List.mem_of_getElem? (i := 1) rfl)))))) rfl rfl dX2_chain_48 ?_
        have hR16 := GS_R hg (b9 + 64) 0
        refine lv_iconst (v := iI 0) hx hb dX2_chain_51 (by decide) ?_
        refine call_r (run_V (a := ea E 1) (As := [va_rf (a2), .int (iI ((sn sL (b9 + 64) 0))), .int (iI (0))]) (rest := [.int (iI ((sn sL (b9 + 64) 1))), .int (iI ((sn sL (b9 + 64) 0))), va_rf (a1), .ref (ea E 1)]) ⟨hx, hb, hml, hown, hts⟩ (ctX2_above l E 44 tp a2 (sn sL (b9 + 64) 0) 0 sL _ (fun b h0 => hm.1 b (ha2 b h0)) hR16 (by decide) hm.2.2 h) (cwV 3 hts gX2_chain_X2_above rfl rfl rfl ⟨rfl, hdX2_above⟩ ⟨Nat.le_of_ble_eq_true rfl, Nat.le_of_ble_eq_true rfl⟩) hK hN hg (recv_x (ci := 2) (C := RX2) (T := TX2) (N := 4) hg hK (by decide) rfl (by decide) rfl) rfl hl.1 rfl (cat_sum _ (by simp)) dX2_chain_52 (show (sz sL - sz σ) + (tp - sz sL) ≤ tp - sz σ ∧ 9 * (sz sL - sz σ) + 9 * (tp - sz sL) ≤ 9 * (tp - sz σ) by have q1 := hm.2.1; have q2 := hm.2.2; omega)) hg (fun r18 s17 H locs hz19 hm2 h hg => ?_)
        have hS20 : ∀ b, a1 = some b → sS s17 b := (fun b h0 => hm2.1 b ((fun b h0 => hm.1 b (ha1 b h0)) b h0))
        have hS21 : ∀ b, a2 = some b → sS s17 b := (fun b h0 => hm2.1 b ((fun b h0 => hm.1 b (ha2 b h0)) b h0))
        have hS22 : ∀ b, v3 = some b → sS s17 b := (fun b h0 => hm2.1 b (mv3 b h0))
        have hm := hm.ta hm2
        refine W_narrow hg hH (show sz s17 ≤ sz σ + (sz s17 - sz σ) by have q1 := hm.2.1; omega) (Nat.le_refl _) ?_
        refine lv_iconst (v := iI 0) hx hb dX2_chain_55 (by decide) ?_
        refine call_r (run_V (a := ea E 1) (As := [va_rf (a1), .int (iI ((sn sL (b9 + 64) 0))), .int (iI ((sn sL (b9 + 64) 1))), va_rf (r18), .int (iI (0))]) (rest := []) ⟨hx, hb, hml, hown, hts⟩ (ctX2_join l E 44 tp a1 (sn sL (b9 + 64) 0) (sn sL (b9 + 64) 1) r18 0 s17 _ hS20 hR14 hR15 hz19 (by decide) hm.2.2 h) (cwV 5 hts gX2_chain_X2_join rfl rfl rfl ⟨rfl, hdX2_join⟩ ⟨Nat.le_of_ble_eq_true rfl, Nat.le_of_ble_eq_true rfl⟩) hK hN hg (recv_x (ci := 2) (C := RX2) (T := TX2) (N := 4) hg hK (by decide) rfl (by decide) rfl) rfl hl.1 rfl (cat_sum _ (by simp)) dX2_chain_56 (show (sz s17 - sz σ) + (tp - sz s17) ≤ tp - sz σ ∧ 9 * (sz s17 - sz σ) + 9 * (tp - sz s17) ≤ 9 * (tp - sz σ) by have q1 := hm.2.1; have q2 := hm.2.2; omega)) hg (fun r24 s23 H locs hz25 hm2 h hg => ?_)
        have hS26 : ∀ b, a1 = some b → sS s23 b := (fun b h0 => hm2.1 b (hS20 b h0))
        have hS27 : ∀ b, a2 = some b → sS s23 b := (fun b h0 => hm2.1 b (hS21 b h0))
        have hS28 : ∀ b, v3 = some b → sS s23 b := (fun b h0 => hm2.1 b (hS22 b h0))
        have hm := hm.ta hm2
        refine W_narrow hg hH (show sz s23 ≤ sz σ + (sz s23 - sz σ) by have q1 := hm.2.1; omega) (Nat.le_refl _) ?_
        refine W.widen (k := tp - sz σ) (n := 9 * (tp - sz σ)) (show sz s23 - sz σ ≤ _ by have q1 := hm.2.2; omega) (show 9 * (sz s23 - sz σ) ≤ _ by have q1 := hm.2.2; omega) ?_
        exact ret_r hx hb hr hlocks hg hz25 hm h dX2_chain_59
      · have h := h.2 b13 c12
        refine q_aload_n hx hb dX2_chain_27 rfl (lv_at hl 3 rfl) ?_
        refine q_ngetr_o c10 hx hb hts (fun _ h9 => List.mem_cons_of_mem _ (List.mem_append_left _ (List.mem_append_right _ h9))) hown hK hg (mv3 b9 c10) 4 (by decide) (hts (.fieldLink RX2 37 "JoinMaps$Node" "left" "LJoinMaps$Node;") (List.mem_cons_of_mem _ (List.mem_append_left _ (List.mem_append_left _ (List.mem_append_left _ (List.mem_of_getElem? (i := 0) rfl)))))) rfl rfl dX2_chain_28 ?_
        have hS29 : ∀ b, (sf sL (b9 + 64) 4) = some b → sS sL b := fun b h0 => GS_F hg h0
        refine q_astore_n (i := 3) (lv' := [(3, va_rf ((sf sL (b9 + 64) 4))), (0, .ref (ea E 1)), (1, va_rf (a1)), (2, va_rf (a2))]) hx hb dX2_chain_31 rfl hl (by decide) (by simp [List.filter_cons, rf_cat, ct_i, ct_l, ct_x]) (fun ls hl => ?_)
        refine lv_goto (tgt := 20) hx hb dX2_chain_32 (by decide) ?_
        exact ih ((sf sL (b9 + 64) 4)) (sL) _ _ _ hS29 hg hm (lv_sub hl [1, 2, 3, 0] rfl) h
  refine q_aload_n hx hb dX2_chain_0 rfl (lv_at hl 1 rfl) ?_
  refine j_null (tgt := 8) hx hb dX2_chain_1 (by decide) (fun c1 => ?_) (fun b2 c1 => ?_)
  · have h := h.1 c1
    refine q_aload_n hx hb dX2_chain_8 rfl (lv_at hl 1 rfl) ?_
    refine j_nonnull (tgt := 16) hx hb dX2_chain_9 (by decide) (fun b4 c3 => ?_) (fun c3 => ?_)
    · have h := h.2 b4 c3
      refine q_aload_n hx hb dX2_chain_16 rfl (lv_at hl 1 rfl) ?_
      refine W.widen (k := tp - sz σ) (n := 9 * (tp - sz σ)) (show sz σ - sz σ ≤ _ by have q1 := hm.2.2; omega) (show 9 * (sz σ - sz σ) ≤ _ by have q1 := hm.2.2; omega) ?_
      exact ret_r hx hb hr hlocks hg ha1 hm h dX2_chain_17
    · have h := h.1 c3
      refine q_aload_n hx hb dX2_chain_12 rfl (lv_at hl 2 rfl) ?_
      refine lv_goto (tgt := 17) hx hb dX2_chain_13 (by decide) ?_
      refine W.widen (k := tp - sz σ) (n := 9 * (tp - sz σ)) (show sz σ - sz σ ≤ _ by have q1 := hm.2.2; omega) (show 9 * (sz σ - sz σ) ≤ _ by have q1 := hm.2.2; omega) ?_
      exact ret_r hx hb hr hlocks hg ha2 hm h dX2_chain_17
  · have h := h.2 b2 c1
    refine q_aload_n hx hb dX2_chain_4 rfl (lv_at hl 2 rfl) ?_
    refine j_nonnull (tgt := 18) hx hb dX2_chain_5 (by decide) (fun b6 c5 => ?_) (fun c5 => ?_)
    · have h := h.2 b6 c5
      refine q_aload_n hx hb dX2_chain_18 rfl (lv_at hl 2 rfl) ?_
      refine q_astore_n (i := 3) (lv' := [(3, va_rf (a2)), (0, .ref (ea E 1)), (1, va_rf (a1)), (2, va_rf (a2))]) hx hb dX2_chain_19 rfl hl (by decide) (by simp [List.filter_cons, rf_cat, ct_i, ct_l, ct_x]) (fun ls hl => ?_)
      obtain ⟨kk, h⟩ := h
      exact J20  kk (a2) (σ) _ _ _ ha2 hg hm (lv_sub hl [1, 2, 3, 0] rfl) h
    · have h := h.1 c5
      refine q_aload_n hx hb dX2_chain_8 rfl (lv_at hl 1 rfl) ?_
      refine j_nonnull (tgt := 16) hx hb dX2_chain_9 (by decide) (fun b8 c7 => ?_) (fun c7 => ?_)
      · have h := h.2 b8 c7
        refine q_aload_n hx hb dX2_chain_16 rfl (lv_at hl 1 rfl) ?_
        refine W.widen (k := tp - sz σ) (n := 9 * (tp - sz σ)) (show sz σ - sz σ ≤ _ by have q1 := hm.2.2; omega) (show 9 * (sz σ - sz σ) ≤ _ by have q1 := hm.2.2; omega) ?_
        exact ret_r hx hb hr hlocks hg ha1 hm h dX2_chain_17
      · have h := h.1 c7
        refine q_aload_n hx hb dX2_chain_12 rfl (lv_at hl 2 rfl) ?_
        refine lv_goto (tgt := 17) hx hb dX2_chain_13 (by decide) ?_
        refine W.widen (k := tp - sz σ) (n := 9 * (tp - sz σ)) (show sz σ - sz σ ≤ _ by have q1 := hm.2.2; omega) (show 9 * (sz σ - sz σ) ≤ _ by have q1 := hm.2.2; omega) ?_
        exact ret_r hx hb hr hlocks hg ha2 hm h dX2_chain_17
theorem hdX3_find : yX3_find.cls ≠ "java/lang/invoke/MethodHandle" ∧ yX3_find.cls ≠ "java/lang/invoke/VarHandle" ∧ (parseMethodDescriptor yX3_find.desc).map (fun d => d.parameters.length) = some 2 := by decide +kernel
set_option maxRecDepth 100000 in
set_option maxHeartbeats 4000000 in
theorem ctX3_find (l : Launch) (E : Ev) (a0 : Option Nat) (a1 : Int) (σ : SS) (Q : Option Nat → SS → Prop) (ha0 : ∀ b, a0 = some b → sS σ b) (ha1 : R32 a1) (h : wX3_find a0 a1 σ Q) : Met l yX3_find wsX3_find ({ frames := 0, cells := 0, slots := 0, locals := 0 } : Room) (Pc E σ [va_rf (a0), .int (iI (a1))]) (Qr E (sz σ) σ Q) 0 0 (Av E) := by
  rw [wX3_find] at h
  refine Met.ofW (cc := cX3_find) (maxL := 3) (ret := (some (.object "JoinMaps$Node"))) (by decide) rfl ?_
  intro p e s m args below meth c s₁ B hml hv
  obtain ⟨rfl, hH, hK, hN⟩ := hv
  have hx := B.exec
  have hb := B.bytes
  have hr := B.returns
  have hts := atoms_spec (ws := wsX3_find) B.pre
  have hown : s.vm.findClass RX3 = some m.cls := findClass_of_methodNamed B.named
  have hlocks := B.notSynchronized
  have hg : GS E σ s s.heap [] := ⟨hH, va_S.rf⟩
  have hm : Mo (sz σ) σ σ := Mo.rf (Nat.le_refl _)
  have hl := ent (vs := [va_rf (a0), .int (iI (a1))]) (n := 3) (cats_r (cats_i cats_nil)) (Nat.le_of_ble_eq_true rfl)
  rw [lg_entry_eq]
  generalize (lg_sl ([va_rf (a0), .int (iI (a1))]) ++ List.replicate (3 - (lg_sl ([va_rf (a0), .int (iI (a1))])).length) Slot.unset).toArray = ls at hl ⊢
  have hl : lv_has ls 3 [(0, va_rf (a0)), (1, .int (iI (a1)))] := hl
  have J2 : ∀ (k : Nat), ∀ (v2 : Option Nat) (sL : SS) (H : Heap) (locs : List Loc) (ls : Array Slot), (∀ b, v2 = some b → sS sL b) → GS E sL s H locs → Mo (sz σ) σ sL → lv_has ls 3 [(1, .int (iI (a1))), (2, va_rf (v2))] → wX3_find_L2 a0 a1 Q  k v2 sL → W p l e (headSpec wsX3_find ({ frames := 0, cells := 0, slots := 0, locals := 0 } : Room)).room s m (List.toArray [va_rf (a0), .int (iI (a1))]) below meth c H locs 0 0 (MQ below (Qr E (sz σ) σ Q) (List.toArray [va_rf (a0), .int (iI (a1))]) s 0 0 (Av E)) (F0 m 2 ls []) := by
    intro k
    induction k with
    | zero => intro v2 sL H locs ls mv2 hg hm hl h; exact False.elim h
    | succ k ih =>
      intro v2 sL H locs ls mv2 hg hm hl h
      rw [wX3_find_L2] at h
      refine q_aload_n hx hb dX3_find_2 rfl (lv_at hl 1 rfl) ?_
      refine j_null (tgt := 37) hx hb dX3_find_3 (by decide) (fun c1 => ?_) (fun b2 c1 => ?_)
      · have h := h.1 c1
        refine q_aload_n hx hb dX3_find_37 rfl (lv_at hl 1 rfl) ?_
        exact ret_r hx hb hr hlocks hg mv2 hm h dX3_find_38
      · have h := h.2 b2 c1
        refine q_aload_n hx hb dX3_find_6 rfl (lv_at hl 1 rfl) ?_
        refine q_ngeti_o c1 hx hb hts (fun _ h9 => List.mem_cons_of_mem _ (List.mem_append_right _ h9)) hown hK hg (mv2 b2 c1) 0 (by decide) (hts (.fieldLink RX3 23 "JoinMaps$Node" "key" "I") (List.mem_cons_of_mem _ (List.mem_append_left _ (List.mem_of_getElem? (i := 0) rfl)))) rfl rfl dX3_find_7 ?_
        have hR3 := GS_R hg (b2 + 64) 0
        refine lv_iload_n hx hb dX3_find_10 rfl (lv_at hl 0 rfl) ?_
        refine j_eq (tgt := 37) hx hb dX3_find_11 (by decide) hR3 ha1 (fun c4 => ?_) (fun c4 => ?_)
        · have h := h.1 c4
          refine q_aload_n hx hb dX3_find_37 rfl (lv_at hl 1 rfl) ?_
          exact ret_r hx hb hr hlocks hg mv2 hm h dX3_find_38
        · have h := h.2 c4
          refine lv_iload_n hx hb dX3_find_14 rfl (lv_at hl 0 rfl) ?_
          refine q_aload_n hx hb dX3_find_15 rfl (lv_at hl 1 rfl) ?_
          refine q_ngeti_o c1 hx hb hts (fun _ h9 => List.mem_cons_of_mem _ (List.mem_append_right _ h9)) hown hK hg (mv2 b2 c1) 0 (by decide) (hts (.fieldLink RX3 23 "JoinMaps$Node" "key" "I") (List.mem_cons_of_mem _ (List.mem_append_left _ (List.mem_of_getElem? (i := 0) rfl)))) rfl rfl dX3_find_16 ?_
          have hR5 := GS_R hg (b2 + 64) 0
          refine j_ge (tgt := 29) hx hb dX3_find_19 (by decide) ha1 hR5 (fun c6 => ?_) (fun c6 => ?_)
          · have h := h.1 c6
            refine q_aload_n hx hb dX3_find_29 rfl (lv_at hl 1 rfl) ?_
            refine q_ngetr_o c1 hx hb hts (fun _ h9 => List.mem_cons_of_mem _ (List.mem_append_right _ h9)) hown hK hg (mv2 b2 c1) 5 (by decide) (hts (.fieldLink RX3 30 "JoinMaps$Node" "right" "LJoinMaps$Node;") (List.mem_cons_of_mem _ (List.mem_append_left _ (List.mem_of_getElem? (i := 2) rfl)))) rfl rfl dX3_find_30 ?_
            have hS7 : ∀ b, (sf sL (b2 + 64) 5) = some b → sS sL b := fun b h0 => GS_F hg h0
            refine q_astore_n (i := 2) (lv' := [(2, va_rf ((sf sL (b2 + 64) 5))), (1, .int (iI (a1)))]) hx hb dX3_find_33 rfl hl (by decide) (by simp [List.filter_cons, rf_cat, ct_i, ct_l, ct_x]) (fun ls hl => ?_)
            refine lv_goto (tgt := 2) hx hb dX3_find_34 (by decide) ?_
            exact ih ((sf sL (b2 + 64) 5)) (sL) _ _ _ hS7 hg hm (lv_sub hl [1, 0] rfl) h
          · have h := h.2 c6
            refine q_aload_n hx hb dX3_find_22 rfl (lv_at hl 1 rfl) ?_
            refine q_ngetr_o c1 hx hb hts (fun _ h9 => List.mem_cons_of_mem _ (List.mem_append_right _ h9)) hown hK hg (mv2 b2 c1) 4 (by decide) (hts (.fieldLink RX3 26 "JoinMaps$Node" "left" "LJoinMaps$Node;") (List.mem_cons_of_mem _ (List.mem_append_left _ (List.mem_of_getElem? (i := 1) rfl)))) rfl rfl dX3_find_23 ?_
            have hS8 : ∀ b, (sf sL (b2 + 64) 4) = some b → sS sL b := fun b h0 => GS_F hg h0
            refine lv_goto (tgt := 33) hx hb dX3_find_26 (by decide) ?_
            refine q_astore_n (i := 2) (lv' := [(2, va_rf ((sf sL (b2 + 64) 4))), (1, .int (iI (a1)))]) hx hb dX3_find_33 rfl hl (by decide) (by simp [List.filter_cons, rf_cat, ct_i, ct_l, ct_x]) (fun ls hl => ?_)
            refine lv_goto (tgt := 2) hx hb dX3_find_34 (by decide) ?_
            exact ih ((sf sL (b2 + 64) 4)) (sL) _ _ _ hS8 hg hm (lv_sub hl [1, 0] rfl) h
  refine q_aload_n hx hb dX3_find_0 rfl (lv_at hl 0 rfl) ?_
  refine q_astore_n (i := 2) (lv' := [(2, va_rf (a0)), (0, va_rf (a0)), (1, .int (iI (a1)))]) hx hb dX3_find_1 rfl hl (by decide) (by simp [List.filter_cons, rf_cat, ct_i, ct_l, ct_x]) (fun ls hl => ?_)
  obtain ⟨kk, h⟩ := h
  exact J2  kk (a0) (σ) _ _ _ ha0 hg hm (lv_sub hl [2, 0] rfl) h
theorem hdX1_blend : yX1_blend.cls ≠ "java/lang/invoke/MethodHandle" ∧ yX1_blend.cls ≠ "java/lang/invoke/VarHandle" ∧ (parseMethodDescriptor yX1_blend.desc).map (fun d => d.parameters.length) = some 4 := by decide +kernel
set_option maxRecDepth 100000 in
set_option maxHeartbeats 4000000 in
theorem ctX1_blend (l : Launch) (E : Ev) : ∀ (d : Nat) (tp : Nat) (a1 : Int) (a2 : Option Nat) (a3 : Option Nat) (a4 : Int) (σ : SS) (Q : Option Nat → SS → Prop) (ha1 : R32 a1) (ha2 : ∀ b, a2 = some b → sS σ b) (ha3 : ∀ b, a3 = some b → sS σ b) (ha4 : R32 a4) (ht : sz σ ≤ tp) (h : wX1_blend d tp a1 a2 a3 a4 σ Q), Met l yX1_blend wsX1_blend ({ frames := 95 + d, cells := tp - sz σ, slots := 9 * (tp - sz σ), locals := 2431 + d * 28 } : Room) (Pc E σ [.ref (ea E 2), .int (iI (a1)), va_rf (a2), va_rf (a3), .int (iI (a4))]) (Qr E tp σ Q) (tp - sz σ) (9 * (tp - sz σ)) (Av E) := by
  intro d
  induction d with
  | zero => intro tp a1 a2 a3 a4 σ Q ha1 ha2 ha3 ha4 ht h; exact False.elim h
  | succ d ih =>
  intro tp a1 a2 a3 a4 σ Q ha1 ha2 ha3 ha4 ht h
  rw [wX1_blend] at h
  refine Met.ofW (cc := cX1_blend) (maxL := 9) (ret := (some (.object "JoinMaps$Node"))) (by decide) rfl ?_
  intro p e s m args below meth c s₁ B hml hv
  obtain ⟨rfl, hH, hK, hN⟩ := hv
  have hx := B.exec
  have hb := B.bytes
  have hr := B.returns
  have hts := atoms_spec (ws := wsX1_blend) B.pre
  have hown : s.vm.findClass RX1 = some m.cls := findClass_of_methodNamed B.named
  have hlocks := B.notSynchronized
  have hg : GS E σ s s.heap [] := ⟨hH, va_S.rf⟩
  have hm : Mo tp σ σ := Mo.rf ht
  have hl := ent (vs := [.ref (ea E 2), .int (iI (a1)), va_rf (a2), va_rf (a3), .int (iI (a4))]) (n := 9) (cats_x (cats_i (cats_r (cats_r (cats_i cats_nil))))) (Nat.le_of_ble_eq_true rfl)
  rw [lg_entry_eq]
  generalize (lg_sl ([.ref (ea E 2), .int (iI (a1)), va_rf (a2), va_rf (a3), .int (iI (a4))]) ++ List.replicate (9 - (lg_sl ([.ref (ea E 2), .int (iI (a1)), va_rf (a2), va_rf (a3), .int (iI (a4))])).length) Slot.unset).toArray = ls at hl ⊢
  have hl : lv_has ls 9 [(0, .ref (ea E 2)), (1, .int (iI (a1))), (2, va_rf (a2)), (3, va_rf (a3)), (4, .int (iI (a4)))] := hl
  refine W_narrow hg hH (show sz σ ≤ sz σ + (sz σ - sz σ) by omega) (show 9 * (sz σ - sz σ) ≤ 9 * (sz σ - sz σ) from Nat.le_refl _) ?_
  have J139 : ∀ (v5 : Option Nat) (v6 : Option Nat) (v7 : Option Nat) (u0 : Int) (sL : SS) (H : Heap) (locs : List Loc) (ls : Array Slot), (∀ b, v5 = some b → sS sL b) → (∀ b, v6 = some b → sS sL b) → (∀ b, v7 = some b → sS sL b) → GS E sL s H locs → Mo tp σ sL → lv_has ls 9 [(0, .ref (ea E 2)), (2, va_rf (a2)), (5, va_rf (v5)), (6, va_rf (v6)), (7, va_rf (v7))] → wX1_blend_L139 (wX1_blend d) tp a1 a2 a3 a4 Q  v5 v6 v7 u0 sL → W p l e (headSpec wsX1_blend ({ frames := 95 + (d + 1), cells := tp - sz σ, slots := 9 * (tp - sz σ), locals := 2431 + (d + 1) * 28 } : Room)).room s m (List.toArray [.ref (ea E 2), .int (iI (a1)), va_rf (a2), va_rf (a3), .int (iI (a4))]) below meth c H locs (sz sL - sz σ) (9 * (sz sL - sz σ)) (MQ below (Qr E tp σ Q) (List.toArray [.ref (ea E 2), .int (iI (a1)), va_rf (a2), va_rf (a3), .int (iI (a4))]) s (tp - sz σ) (9 * (tp - sz σ)) (Av E)) (F0 m 139 ls [.int (iI (u0))]) := by
    intro v5 v6 v7 u0 sL H locs ls mv5 mv6 mv7 hg hm hl h
    rw [wX1_blend_L139] at h
    refine lv_istore (i := 8) (lv' := [(8, .int (iI (u0))), (0, .ref (ea E 2)), (2, va_rf (a2)), (5, va_rf (v5)), (6, va_rf (v6)), (7, va_rf (v7))]) hx hb dX1_blend_139 hl (by decide) (by simp [List.filter_cons, rf_cat, ct_i, ct_l, ct_x]) (fun ls hl => ?_)
    refine lv_iload hx hb dX1_blend_141 (lv_at hl 0 rfl) ?_
    obtain ⟨hR53, h⟩ := h
    refine k_ne (tgt := 158) hx hb dX1_blend_143 (by decide) hR53 (fun c54 => ?_) (fun c54 => ?_)
    · have h := h.1 c54
      refine lv_aload_n hx hb dX1_blend_158 rfl (lv_at hl 1 rfl) ?_
      refine q_getx (ci := 1) (C := RX1) (T := TX1) (N := 2) (j := 1) hx hb hts (fun _ h9 => List.mem_cons_of_mem _ (List.mem_append_left _ (List.mem_append_right _ h9))) hown hK hg 2 (by decide) rfl rfl (by decide) rfl 0 (by decide) (hts (.fieldLink RX1 9 "JoinMaps$Blender" "grove" "LJoinMaps$Grove;") (List.mem_cons_of_mem _ (List.mem_append_left _ (List.mem_append_left _ (List.mem_append_left _ (List.mem_append_left _ (List.mem_of_getElem? (i := 1) rfl))))))) rfl rfl rfl dX1_blend_159 ?_
      refine q_aload hx hb dX1_blend_162 (lv_at hl 3 rfl) ?_
      refine q_aload_n hx hb dX1_blend_164 rfl (lv_at hl 2 rfl) ?_
      obtain ⟨b55, c56, h⟩ := h
      refine q_ngeti_o c56 hx hb hts (fun _ h9 => List.mem_cons_of_mem _ (List.mem_append_left _ (List.mem_append_left _ (List.mem_append_right _ h9)))) hown hK hg ((fun b h0 => hm.1 b (ha2 b h0)) b55 c56) 0 (by decide) (hts (.fieldLink RX1 21 "JoinMaps$Node" "key" "I") (List.mem_cons_of_mem _ (List.mem_append_left _ (List.mem_append_left _ (List.mem_append_left _ (List.mem_append_left _ (List.mem_of_getElem? (i := 2) rfl))))))) rfl rfl dX1_blend_165 ?_
      have hR57 := GS_R hg (b55 + 64) 0
      refine q_aload hx hb dX1_blend_168 (lv_at hl 5 rfl) ?_
      refine j_nonnull (tgt := 180) hx hb dX1_blend_170 (by decide) (fun b59 c58 => ?_) (fun c58 => ?_)
      · have h := h.2 b59 c58
        refine lv_aload_n hx hb dX1_blend_180 rfl (lv_at hl 1 rfl) ?_
        refine q_aload_n hx hb dX1_blend_181 rfl (lv_at hl 2 rfl) ?_
        refine q_ngeti_o c56 hx hb hts (fun _ h9 => List.mem_cons_of_mem _ (List.mem_append_left _ (List.mem_append_left _ (List.mem_append_right _ h9)))) hown hK hg ((fun b h0 => hm.1 b (ha2 b h0)) b55 c56) 1 (by decide) (hts (.fieldLink RX1 49 "JoinMaps$Node" "value" "I") (List.mem_cons_of_mem _ (List.mem_append_left _ (List.mem_append_left _ (List.mem_append_left _ (List.mem_append_left _ (List.mem_of_getElem? (i := 4) rfl))))))) rfl rfl dX1_blend_182 ?_
        have hR60 := GS_R hg (b55 + 64) 1
        refine q_aload hx hb dX1_blend_185 (lv_at hl 5 rfl) ?_
        refine q_ngeti_o c58 hx hb hts (fun _ h9 => List.mem_cons_of_mem _ (List.mem_append_left _ (List.mem_append_left _ (List.mem_append_right _ h9)))) hown hK hg (mv7 b59 c58) 1 (by decide) (hts (.fieldLink RX1 49 "JoinMaps$Node" "value" "I") (List.mem_cons_of_mem _ (List.mem_append_left _ (List.mem_append_left _ (List.mem_append_left _ (List.mem_append_left _ (List.mem_of_getElem? (i := 4) rfl))))))) rfl rfl dX1_blend_187 ?_
        have hR61 := GS_R hg (b59 + 64) 1
        refine call_i (run_V (a := ea E 2) (As := [.int (iI ((sn sL (b55 + 64) 1))), .int (iI ((sn sL (b59 + 64) 1)))]) (rest := [.int (iI ((sn sL (b55 + 64) 0))), va_rf (v5), .ref (ea E 1)]) ⟨hx, hb, hml, hown, hts⟩ (ctX1_mixed l E (sn sL (b55 + 64) 1) (sn sL (b59 + 64) 1) sL _ hR60 hR61 h) (cwV 2 hts gX1_blend_X1_mixed rfl rfl rfl ⟨rfl, hdX1_mixed⟩ ⟨by show 2 + 1 ≤ 95 + (d + 1); omega, by show 8 + (3 + 11) + 41 ≤ 2431 + (d + 1) * 28; omega⟩) hK hN hg (recv_x (ci := 1) (C := RX1) (T := TX1) (N := 2) hg hK (by decide) rfl (by decide) rfl) rfl hl.1 rfl (cat_sum _ (by simp)) dX1_blend_190 (show (sz sL - sz σ) + 0 ≤ tp - sz σ ∧ 9 * (sz sL - sz σ) + 0 ≤ 9 * (tp - sz σ) by have q1 := hm.2.1; have q2 := hm.2.2; omega)) hg (fun r63 s62 H locs hz64 hm2 h hg => ?_)
        have hS65 : ∀ b, a2 = some b → sS s62 b := (fun b h0 => hm2.1 b ((fun b h0 => hm.1 b (ha2 b h0)) b h0))
        have hS66 : ∀ b, v5 = some b → sS s62 b := (fun b h0 => hm2.1 b (mv5 b h0))
        have hS67 : ∀ b, v6 = some b → sS s62 b := (fun b h0 => hm2.1 b (mv6 b h0))
        have hS68 : ∀ b, v7 = some b → sS s62 b := (fun b h0 => hm2.1 b (mv7 b h0))
        have hm := hm.tn hm2
        refine W_narrow hg hH (show sz s62 ≤ sz σ + (sz s62 - sz σ) by have q1 := hm.2.1; omega) (Nat.le_refl _) ?_
        refine q_aload hx hb dX1_blend_193 (lv_at hl 4 rfl) ?_
        refine lv_iconst (v := iI 0) hx hb dX1_blend_195 (by decide) ?_
        refine call_r (run_V (a := ea E 1) (As := [va_rf (v5), .int (iI ((sn sL (b55 + 64) 0))), .int (iI (r63)), va_rf (v6), .int (iI (0))]) (rest := []) ⟨hx, hb, hml, hown, hts⟩ (ctX2_join l E 44 tp v5 (sn sL (b55 + 64) 0) r63 v6 0 s62 _ hS66 hR57 hz64 hS67 (by decide) hm.2.2 h) (cwV 5 hts gX1_blend_X2_join rfl rfl rfl ⟨rfl, hdX2_join⟩ ⟨by show 48 + 1 ≤ 95 + (d + 1); omega, by show 8 + (8 + 11) + 1301 ≤ 2431 + (d + 1) * 28; omega⟩) hK hN hg (recv_x (ci := 2) (C := RX2) (T := TX2) (N := 4) hg hK (by decide) rfl (by decide) rfl) rfl hl.1 rfl (cat_sum _ (by simp)) dX1_blend_196 (show (sz s62 - sz σ) + (tp - sz s62) ≤ tp - sz σ ∧ 9 * (sz s62 - sz σ) + 9 * (tp - sz s62) ≤ 9 * (tp - sz σ) by have q1 := hm.2.1; have q2 := hm.2.2; omega)) hg (fun r70 s69 H locs hz71 hm2 h hg => ?_)
        have hS72 : ∀ b, a2 = some b → sS s69 b := (fun b h0 => hm2.1 b (hS65 b h0))
        have hS73 : ∀ b, v5 = some b → sS s69 b := (fun b h0 => hm2.1 b (hS66 b h0))
        have hS74 : ∀ b, v6 = some b → sS s69 b := (fun b h0 => hm2.1 b (hS67 b h0))
        have hS75 : ∀ b, v7 = some b → sS s69 b := (fun b h0 => hm2.1 b (hS68 b h0))
        have hm := hm.ta hm2
        refine W_narrow hg hH (show sz s69 ≤ sz σ + (sz s69 - sz σ) by have q1 := hm.2.1; omega) (Nat.le_refl _) ?_
        refine W.widen (k := tp - sz σ) (n := 9 * (tp - sz σ)) (show sz s69 - sz σ ≤ _ by have q1 := hm.2.2; omega) (show 9 * (sz s69 - sz σ) ≤ _ by have q1 := hm.2.2; omega) ?_
        exact ret_r hx hb hr hlocks hg hz71 hm h dX1_blend_199
      · have h := h.1 c58
        refine q_aload_n hx hb dX1_blend_173 rfl (lv_at hl 2 rfl) ?_
        refine q_ngeti_o c56 hx hb hts (fun _ h9 => List.mem_cons_of_mem _ (List.mem_append_left _ (List.mem_append_left _ (List.mem_append_right _ h9)))) hown hK hg ((fun b h0 => hm.1 b (ha2 b h0)) b55 c56) 1 (by decide) (hts (.fieldLink RX1 49 "JoinMaps$Node" "value" "I") (List.mem_cons_of_mem _ (List.mem_append_left _ (List.mem_append_left _ (List.mem_append_left _ (List.mem_append_left _ (List.mem_of_getElem? (i := 4) rfl))))))) rfl rfl dX1_blend_174 ?_
        have hR76 := GS_R hg (b55 + 64) 1
        refine lv_goto (tgt := 193) hx hb dX1_blend_177 (by decide) ?_
        refine q_aload hx hb dX1_blend_193 (lv_at hl 4 rfl) ?_
        refine lv_iconst (v := iI 0) hx hb dX1_blend_195 (by decide) ?_
        refine call_r (run_V (a := ea E 1) (As := [va_rf (v5), .int (iI ((sn sL (b55 + 64) 0))), .int (iI ((sn sL (b55 + 64) 1))), va_rf (v6), .int (iI (0))]) (rest := []) ⟨hx, hb, hml, hown, hts⟩ (ctX2_join l E 44 tp v5 (sn sL (b55 + 64) 0) (sn sL (b55 + 64) 1) v6 0 sL _ mv5 hR57 hR76 mv6 (by decide) hm.2.2 h) (cwV 5 hts gX1_blend_X2_join rfl rfl rfl ⟨rfl, hdX2_join⟩ ⟨by show 48 + 1 ≤ 95 + (d + 1); omega, by show 8 + (8 + 11) + 1301 ≤ 2431 + (d + 1) * 28; omega⟩) hK hN hg (recv_x (ci := 2) (C := RX2) (T := TX2) (N := 4) hg hK (by decide) rfl (by decide) rfl) rfl hl.1 rfl (cat_sum _ (by simp)) dX1_blend_196 (show (sz sL - sz σ) + (tp - sz sL) ≤ tp - sz σ ∧ 9 * (sz sL - sz σ) + 9 * (tp - sz sL) ≤ 9 * (tp - sz σ) by have q1 := hm.2.1; have q2 := hm.2.2; omega)) hg (fun r78 s77 H locs hz79 hm2 h hg => ?_)
        have hS80 : ∀ b, a2 = some b → sS s77 b := (fun b h0 => hm2.1 b ((fun b h0 => hm.1 b (ha2 b h0)) b h0))
        have hS81 : ∀ b, v5 = some b → sS s77 b := (fun b h0 => hm2.1 b (mv5 b h0))
        have hS82 : ∀ b, v6 = some b → sS s77 b := (fun b h0 => hm2.1 b (mv6 b h0))
        have hS83 : ∀ b, v7 = some b → sS s77 b := (fun b h0 => hm2.1 b (mv7 b h0))
        have hm := hm.ta hm2
        refine W_narrow hg hH (show sz s77 ≤ sz σ + (sz s77 - sz σ) by have q1 := hm.2.1; omega) (Nat.le_refl _) ?_
        refine W.widen (k := tp - sz σ) (n := 9 * (tp - sz σ)) (show sz s77 - sz σ ≤ _ by have q1 := hm.2.2; omega) (show 9 * (sz s77 - sz σ) ≤ _ by have q1 := hm.2.2; omega) ?_
        exact ret_r hx hb hr hlocks hg hz79 hm h dX1_blend_199
    · have h := h.2 c54
      refine lv_aload_n hx hb dX1_blend_146 rfl (lv_at hl 1 rfl) ?_
      refine q_getx (ci := 1) (C := RX1) (T := TX1) (N := 2) (j := 1) hx hb hts (fun _ h9 => List.mem_cons_of_mem _ (List.mem_append_left _ (List.mem_append_right _ h9))) hown hK hg 2 (by decide) rfl rfl (by decide) rfl 0 (by decide) (hts (.fieldLink RX1 9 "JoinMaps$Blender" "grove" "LJoinMaps$Grove;") (List.mem_cons_of_mem _ (List.mem_append_left _ (List.mem_append_left _ (List.mem_append_left _ (List.mem_append_left _ (List.mem_of_getElem? (i := 1) rfl))))))) rfl rfl rfl dX1_blend_147 ?_
      refine q_aload hx hb dX1_blend_150 (lv_at hl 3 rfl) ?_
      refine q_aload hx hb dX1_blend_152 (lv_at hl 4 rfl) ?_
      refine call_r (run_V (a := ea E 1) (As := [va_rf (v5), va_rf (v6)]) (rest := []) ⟨hx, hb, hml, hown, hts⟩ (ctX2_chain l E tp v5 v6 sL _ mv5 mv6 hm.2.2 h) (cwV 2 hts gX1_blend_X2_chain rfl rfl rfl ⟨rfl, hdX2_chain⟩ ⟨by show 94 + 1 ≤ 95 + (d + 1); omega, by show 8 + (4 + 11) + 2408 ≤ 2431 + (d + 1) * 28; omega⟩) hK hN hg (recv_x (ci := 2) (C := RX2) (T := TX2) (N := 4) hg hK (by decide) rfl (by decide) rfl) rfl hl.1 rfl (cat_sum _ (by simp)) dX1_blend_154 (show (sz sL - sz σ) + (tp - sz sL) ≤ tp - sz σ ∧ 9 * (sz sL - sz σ) + 9 * (tp - sz sL) ≤ 9 * (tp - sz σ) by have q1 := hm.2.1; have q2 := hm.2.2; omega)) hg (fun r85 s84 H locs hz86 hm2 h hg => ?_)
      have hS87 : ∀ b, a2 = some b → sS s84 b := (fun b h0 => hm2.1 b ((fun b h0 => hm.1 b (ha2 b h0)) b h0))
      have hS88 : ∀ b, v5 = some b → sS s84 b := (fun b h0 => hm2.1 b (mv5 b h0))
      have hS89 : ∀ b, v6 = some b → sS s84 b := (fun b h0 => hm2.1 b (mv6 b h0))
      have hS90 : ∀ b, v7 = some b → sS s84 b := (fun b h0 => hm2.1 b (mv7 b h0))
      have hm := hm.ta hm2
      refine W_narrow hg hH (show sz s84 ≤ sz σ + (sz s84 - sz σ) by have q1 := hm.2.1; omega) (Nat.le_refl _) ?_
      refine W.widen (k := tp - sz σ) (n := 9 * (tp - sz σ)) (show sz s84 - sz σ ≤ _ by have q1 := hm.2.2; omega) (show 9 * (sz s84 - sz σ) ≤ _ by have q1 := hm.2.2; omega) ?_
      exact ret_r hx hb hr hlocks hg hz86 hm h dX1_blend_157
  have J134 : ∀ (K139 : Option Nat → Option Nat → Option Nat → Int → SS → Prop) (hK139 : ∀ (v5 : Option Nat) (v6 : Option Nat) (v7 : Option Nat) (u0 : Int) (sL : SS) (H : Heap) (locs : List Loc) (ls : Array Slot), (∀ b, v5 = some b → sS sL b) → (∀ b, v6 = some b → sS sL b) → (∀ b, v7 = some b → sS sL b) → GS E sL s H locs → Mo tp σ sL → lv_has ls 9 [(0, .ref (ea E 2)), (2, va_rf (a2)), (5, va_rf (v5)), (6, va_rf (v6)), (7, va_rf (v7))] → K139 v5 v6 v7 u0 sL → W p l e (headSpec wsX1_blend ({ frames := 95 + (d + 1), cells := tp - sz σ, slots := 9 * (tp - sz σ), locals := 2431 + (d + 1) * 28 } : Room)).room s m (List.toArray [.ref (ea E 2), .int (iI (a1)), va_rf (a2), va_rf (a3), .int (iI (a4))]) below meth c H locs (sz sL - sz σ) (9 * (sz sL - sz σ)) (MQ below (Qr E tp σ Q) (List.toArray [.ref (ea E 2), .int (iI (a1)), va_rf (a2), va_rf (a3), .int (iI (a4))]) s (tp - sz σ) (9 * (tp - sz σ)) (Av E)) (F0 m 139 ls [.int (iI (u0))])), ∀ (v5 : Option Nat) (v6 : Option Nat) (v7 : Option Nat) (sL : SS) (H : Heap) (locs : List Loc) (ls : Array Slot), (∀ b, v5 = some b → sS sL b) → (∀ b, v6 = some b → sS sL b) → (∀ b, v7 = some b → sS sL b) → GS E sL s H locs → Mo tp σ sL → lv_has ls 9 [(0, .ref (ea E 2)), (2, va_rf (a2)), (5, va_rf (v5)), (6, va_rf (v6)), (7, va_rf (v7))] → wX1_blend_L134 (wX1_blend d) tp a1 a2 a3 a4 Q K139 v5 v6 v7 sL → W p l e (headSpec wsX1_blend ({ frames := 95 + (d + 1), cells := tp - sz σ, slots := 9 * (tp - sz σ), locals := 2431 + (d + 1) * 28 } : Room)).room s m (List.toArray [.ref (ea E 2), .int (iI (a1)), va_rf (a2), va_rf (a3), .int (iI (a4))]) below meth c H locs (sz sL - sz σ) (9 * (sz sL - sz σ)) (MQ below (Qr E tp σ Q) (List.toArray [.ref (ea E 2), .int (iI (a1)), va_rf (a2), va_rf (a3), .int (iI (a4))]) s (tp - sz σ) (9 * (tp - sz σ)) (Av E)) (F0 m 134 ls []) := by
    intro K139 hK139 v5 v6 v7 sL H locs ls mv5 mv6 mv7 hg hm hl h
    rw [wX1_blend_L134] at h
    refine lv_iconst (v := iI 1) hx hb dX1_blend_134 (by decide) ?_
    refine lv_goto (tgt := 139) hx hb dX1_blend_135 (by decide) ?_
    exact hK139 (v5) (v6) (v7) (1) (sL) _ _ _ mv5 mv6 mv7 hg hm (lv_sub hl [0, 1, 2, 3, 4] rfl) h
  refine q_aload_n hx hb dX1_blend_0 rfl (lv_at hl 2 rfl) ?_
  refine j_null (tgt := 11) hx hb dX1_blend_1 (by decide) (fun c1 => ?_) (fun b2 c1 => ?_)
  · have h := h.1 c1
    refine lv_iload_n hx hb dX1_blend_11 rfl (lv_at hl 1 rfl) ?_
    refine k_eq (tgt := 20) hx hb dX1_blend_12 (by decide) ha1 (fun c3 => ?_) (fun c3 => ?_)
    · have h := h.1 c3
      refine q_aload_n hx hb dX1_blend_20 rfl (lv_at hl 3 rfl) ?_
      refine lv_goto (tgt := 25) hx hb dX1_blend_21 (by decide) ?_
      refine W.widen (k := tp - sz σ) (n := 9 * (tp - sz σ)) (show sz σ - sz σ ≤ _ by have q1 := hm.2.2; omega) (show 9 * (sz σ - sz σ) ≤ _ by have q1 := hm.2.2; omega) ?_
      exact ret_r hx hb hr hlocks hg ha3 hm h dX1_blend_25
    · have h := h.2 c3
      refine lv_iload_n hx hb dX1_blend_15 rfl (lv_at hl 1 rfl) ?_
      refine lv_iconst (v := iI 3) hx hb dX1_blend_16 (by decide) ?_
      refine j_ne (tgt := 24) hx hb dX1_blend_17 (by decide) ha1 (by decide) (fun c4 => ?_) (fun c4 => ?_)
      · have h := h.1 c4
        refine q_null hx hb dX1_blend_24 ?_
        refine W.widen (k := tp - sz σ) (n := 9 * (tp - sz σ)) (show sz σ - sz σ ≤ _ by have q1 := hm.2.2; omega) (show 9 * (sz σ - sz σ) ≤ _ by have q1 := hm.2.2; omega) ?_
        exact ret_r hx hb hr hlocks hg (fun b h0 => by cases h0) hm h dX1_blend_25
      · have h := h.2 c4
        refine q_aload_n hx hb dX1_blend_20 rfl (lv_at hl 3 rfl) ?_
        refine lv_goto (tgt := 25) hx hb dX1_blend_21 (by decide) ?_
        refine W.widen (k := tp - sz σ) (n := 9 * (tp - sz σ)) (show sz σ - sz σ ≤ _ by have q1 := hm.2.2; omega) (show 9 * (sz σ - sz σ) ≤ _ by have q1 := hm.2.2; omega) ?_
        exact ret_r hx hb hr hlocks hg ha3 hm h dX1_blend_25
  · have h := h.2 b2 c1
    refine lv_iload hx hb dX1_blend_4 (lv_at hl 4 rfl) ?_
    refine lv_bipush (v := iI 40) hx hb dX1_blend_6 (by decide) ?_
    refine j_le (tgt := 26) hx hb dX1_blend_8 (by decide) ha4 (by decide) (fun c5 => ?_) (fun c5 => ?_)
    · have h := h.1 c5
      refine q_aload_n hx hb dX1_blend_26 rfl (lv_at hl 3 rfl) ?_
      refine j_nonnull (tgt := 41) hx hb dX1_blend_27 (by decide) (fun b7 c6 => ?_) (fun c6 => ?_)
      · have h := h.2 b7 c6
        refine lv_aload_n hx hb dX1_blend_41 rfl (lv_at hl 0 rfl) ?_
        refine lv_iload_n hx hb dX1_blend_42 rfl (lv_at hl 1 rfl) ?_
        refine q_aload_n hx hb dX1_blend_43 rfl (lv_at hl 2 rfl) ?_
        refine q_ngetr_o c1 hx hb hts (fun _ h9 => List.mem_cons_of_mem _ (List.mem_append_left _ (List.mem_append_left _ (List.mem_append_right _ h9)))) hown hK hg (ha2 b2 c1) 4 (by decide) (hts (.fieldLink RX1 15 "JoinMaps$Node" "left" "LJoinMaps$Node;") (List.mem_cons_of_mem _ (List.mem_append_left _ (List.mem_append_left _ (List.mem_append_left _ (List.mem_append_left _ (List.mem_of_getElem? (i := 0) rfl))))))) rfl rfl dX1_blend_44 ?_
        have hS8 : ∀ b, (sf σ (b2 + 64) 4) = some b → sS σ b := fun b h0 => GS_F hg h0
        refine lv_aload_n hx hb dX1_blend_47 rfl (lv_at hl 0 rfl) ?_
        refine q_getx (ci := 1) (C := RX1) (T := TX1) (N := 2) (j := 1) hx hb hts (fun _ h9 => List.mem_cons_of_mem _ (List.mem_append_left _ (List.mem_append_right _ h9))) hown hK hg 2 (by decide) rfl rfl (by decide) rfl 0 (by decide) (hts (.fieldLink RX1 9 "JoinMaps$Blender" "grove" "LJoinMaps$Grove;") (List.mem_cons_of_mem _ (List.mem_append_left _ (List.mem_append_left _ (List.mem_append_left _ (List.mem_append_left _ (List.mem_of_getElem? (i := 1) rfl))))))) rfl rfl rfl dX1_blend_48 ?_
        refine q_aload_n hx hb dX1_blend_51 rfl (lv_at hl 3 rfl) ?_
        refine q_aload_n hx hb dX1_blend_52 rfl (lv_at hl 2 rfl) ?_
        refine q_ngeti_o c1 hx hb hts (fun _ h9 => List.mem_cons_of_mem _ (List.mem_append_left _ (List.mem_append_left _ (List.mem_append_right _ h9)))) hown hK hg (ha2 b2 c1) 0 (by decide) (hts (.fieldLink RX1 21 "JoinMaps$Node" "key" "I") (List.mem_cons_of_mem _ (List.mem_append_left _ (List.mem_append_left _ (List.mem_append_left _ (List.mem_append_left _ (List.mem_of_getElem? (i := 2) rfl))))))) rfl rfl dX1_blend_53 ?_
        have hR9 := GS_R hg (b2 + 64) 0
        refine lv_iconst (v := iI 0) hx hb dX1_blend_56 (by decide) ?_
        refine call_r (run_V (a := ea E 1) (As := [va_rf (a3), .int (iI ((sn σ (b2 + 64) 0))), .int (iI (0))]) (rest := [va_rf ((sf σ (b2 + 64) 4)), .int (iI (a1)), .ref (ea E 2)]) ⟨hx, hb, hml, hown, hts⟩ (ctX2_below l E 44 tp a3 (sn σ (b2 + 64) 0) 0 σ _ ha3 hR9 (by decide) hm.2.2 h) (cwV 3 hts gX1_blend_X2_below rfl rfl rfl ⟨rfl, hdX2_below⟩ ⟨by show 93 + 1 ≤ 95 + (d + 1); omega, by show 8 + (5 + 11) + 2384 ≤ 2431 + (d + 1) * 28; omega⟩) hK hN hg (recv_x (ci := 2) (C := RX2) (T := TX2) (N := 4) hg hK (by decide) rfl (by decide) rfl) rfl hl.1 rfl (cat_sum _ (by simp)) dX1_blend_57 (show (sz σ - sz σ) + (tp - sz σ) ≤ tp - sz σ ∧ 9 * (sz σ - sz σ) + 9 * (tp - sz σ) ≤ 9 * (tp - sz σ) by have q1 := hm.2.1; have q2 := hm.2.2; omega)) hg (fun r11 s10 H locs hz12 hm2 h hg => ?_)
        have hS13 : ∀ b, a2 = some b → sS s10 b := (fun b h0 => hm2.1 b (ha2 b h0))
        have hS14 : ∀ b, a3 = some b → sS s10 b := (fun b h0 => hm2.1 b (ha3 b h0))
        have hS15 : ∀ b, (sf σ (b2 + 64) 4) = some b → sS s10 b := (fun b h0 => hm2.1 b (hS8 b h0))
        have hm := hm.ta hm2
        refine W_narrow hg hH (show sz s10 ≤ sz σ + (sz s10 - sz σ) by have q1 := hm.2.1; omega) (Nat.le_refl _) ?_
        refine lv_iload hx hb dX1_blend_60 (lv_at hl 4 rfl) ?_
        refine lv_iconst (v := iI 1) hx hb dX1_blend_62 (by decide) ?_
        refine q_iadd hx hb dX1_blend_63 ?_
        obtain ⟨hR16, h⟩ := h
        refine call_r (run_V (a := ea E 2) (As := [.int (iI (a1)), va_rf ((sf σ (b2 + 64) 4)), va_rf (r11), .int (iI ((a4 + 1)))]) (rest := []) ⟨hx, hb, hml, hown, hts⟩ (ih tp a1 (sf σ (b2 + 64) 4) r11 (a4 + 1) s10 _ ha1 hS15 hz12 hR16 hm.2.2 h) (cwV 4 hts gX1_blend_X1_blend rfl rfl rfl ⟨rfl, hdX1_blend⟩ ⟨by show 95 + d + 1 ≤ 95 + (d + 1); omega, by show 8 + (9 + 11) + (2431 + d * 28) ≤ 2431 + (d + 1) * 28; omega⟩) hK hN hg (recv_x (ci := 1) (C := RX1) (T := TX1) (N := 2) hg hK (by decide) rfl (by decide) rfl) rfl hl.1 rfl (cat_sum _ (by simp)) dX1_blend_64 (show (sz s10 - sz σ) + (tp - sz s10) ≤ tp - sz σ ∧ 9 * (sz s10 - sz σ) + 9 * (tp - sz s10) ≤ 9 * (tp - sz σ) by have q1 := hm.2.1; have q2 := hm.2.2; omega)) hg (fun r18 s17 H locs hz19 hm2 h hg => ?_)
        have hS20 : ∀ b, a2 = some b → sS s17 b := (fun b h0 => hm2.1 b (hS13 b h0))
        have hS21 : ∀ b, a3 = some b → sS s17 b := (fun b h0 => hm2.1 b (hS14 b h0))
        have hm := hm.ta hm2
        refine W_narrow hg hH (show sz s17 ≤ sz σ + (sz s17 - sz σ) by have q1 := hm.2.1; omega) (Nat.le_refl _) ?_
        refine q_astore (i := 5) (lv' := [(5, va_rf (r18)), (0, .ref (ea E 2)), (1, .int (iI (a1))), (2, va_rf (a2)), (3, va_rf (a3)), (4, .int (iI (a4)))]) hx hb dX1_blend_67 hl (by decide) (by simp [List.filter_cons, rf_cat, ct_i, ct_l, ct_x]) (fun ls hl => ?_)
        refine lv_aload_n hx hb dX1_blend_69 rfl (lv_at hl 1 rfl) ?_
        refine lv_iload_n hx hb dX1_blend_70 rfl (lv_at hl 2 rfl) ?_
        refine q_aload_n hx hb dX1_blend_71 rfl (lv_at hl 3 rfl) ?_
        refine q_ngetr_o c1 hx hb hts (fun _ h9 => List.mem_cons_of_mem _ (List.mem_append_left _ (List.mem_append_left _ (List.mem_append_right _ h9)))) hown hK hg (hS20 b2 c1) 5 (by decide) (hts (.fieldLink RX1 35 "JoinMaps$Node" "right" "LJoinMaps$Node;") (List.mem_cons_of_mem _ (List.mem_append_left _ (List.mem_append_left _ (List.mem_append_left _ (List.mem_append_left _ (List.mem_of_getElem? (i := 3) rfl))))))) rfl rfl dX1_blend_72 ?_
        have hS22 : ∀ b, (sf s17 (b2 + 64) 5) = some b → sS s17 b := fun b h0 => GS_F hg h0
        refine lv_aload_n hx hb dX1_blend_75 rfl (lv_at hl 1 rfl) ?_
        refine q_getx (ci := 1) (C := RX1) (T := TX1) (N := 2) (j := 1) hx hb hts (fun _ h9 => List.mem_cons_of_mem _ (List.mem_append_left _ (List.mem_append_right _ h9))) hown hK hg 2 (by decide) rfl rfl (by decide) rfl 0 (by decide) (hts (.fieldLink RX1 9 "JoinMaps$Blender" "grove" "LJoinMaps$Grove;") (List.mem_cons_of_mem _ (List.mem_append_left _ (List.mem_append_left _ (List.mem_append_left _ (List.mem_append_left _ (List.mem_of_getElem? (i := 1) rfl))))))) rfl rfl rfl dX1_blend_76 ?_
        refine q_aload_n hx hb dX1_blend_79 rfl (lv_at hl 4 rfl) ?_
        refine q_aload_n hx hb dX1_blend_80 rfl (lv_at hl 3 rfl) ?_
        refine q_ngeti_o c1 hx hb hts (fun _ h9 => List.mem_cons_of_mem _ (List.mem_append_left _ (List.mem_append_left _ (List.mem_append_right _ h9)))) hown hK hg (hS20 b2 c1) 0 (by decide) (hts (.fieldLink RX1 21 "JoinMaps$Node" "key" "I") (List.mem_cons_of_mem _ (List.mem_append_left _ (List.mem_append_left _ (List.mem_append_left _ (List.mem_append_left _ (List.mem_of_getElem? (i := 2) rfl))))))) rfl rfl dX1_blend_81 ?_
        have hR23 := GS_R hg (b2 + 64) 0
        refine lv_iconst (v := iI 0) hx hb dX1_blend_84 (by decide) ?_
        refine call_r (run_V (a := ea E 1) (As := [va_rf (a3), .int (iI ((sn s17 (b2 + 64) 0))), .int (iI (0))]) (rest := [va_rf ((sf s17 (b2 + 64) 5)), .int (iI (a1)), .ref (ea E 2)]) ⟨hx, hb, hml, hown, hts⟩ (ctX2_above l E 44 tp a3 (sn s17 (b2 + 64) 0) 0 s17 _ hS21 hR23 (by decide) hm.2.2 h) (cwV 3 hts gX1_blend_X2_above rfl rfl rfl ⟨rfl, hdX2_above⟩ ⟨by show 93 + 1 ≤ 95 + (d + 1); omega, by show 8 + (5 + 11) + 2384 ≤ 2431 + (d + 1) * 28; omega⟩) hK hN hg (recv_x (ci := 2) (C := RX2) (T := TX2) (N := 4) hg hK (by decide) rfl (by decide) rfl) rfl hl.1 rfl (cat_sum _ (by simp)) dX1_blend_85 (show (sz s17 - sz σ) + (tp - sz s17) ≤ tp - sz σ ∧ 9 * (sz s17 - sz σ) + 9 * (tp - sz s17) ≤ 9 * (tp - sz σ) by have q1 := hm.2.1; have q2 := hm.2.2; omega)) hg (fun r25 s24 H locs hz26 hm2 h hg => ?_)
        have hS27 : ∀ b, r18 = some b → sS s24 b := (fun b h0 => hm2.1 b (hz19 b h0))
        have hS28 : ∀ b, a2 = some b → sS s24 b := (fun b h0 => hm2.1 b (hS20 b h0))
        have hS29 : ∀ b, a3 = some b → sS s24 b := (fun b h0 => hm2.1 b (hS21 b h0))
        have hS30 : ∀ b, (sf s17 (b2 + 64) 5) = some b → sS s24 b := (fun b h0 => hm2.1 b (hS22 b h0))
        have hm := hm.ta hm2
        refine W_narrow hg hH (show sz s24 ≤ sz σ + (sz s24 - sz σ) by have q1 := hm.2.1; omega) (Nat.le_refl _) ?_
        refine lv_iload hx hb dX1_blend_88 (lv_at hl 5 rfl) ?_
        refine lv_iconst (v := iI 1) hx hb dX1_blend_90 (by decide) ?_
        refine q_iadd hx hb dX1_blend_91 ?_
        refine call_r (run_V (a := ea E 2) (As := [.int (iI (a1)), va_rf ((sf s17 (b2 + 64) 5)), va_rf (r25), .int (iI ((a4 + 1)))]) (rest := []) ⟨hx, hb, hml, hown, hts⟩ (ih tp a1 (sf s17 (b2 + 64) 5) r25 (a4 + 1) s24 _ ha1 hS30 hz26 hR16 hm.2.2 h) (cwV 4 hts gX1_blend_X1_blend rfl rfl rfl ⟨rfl, hdX1_blend⟩ ⟨by show 95 + d + 1 ≤ 95 + (d + 1); omega, by show 8 + (9 + 11) + (2431 + d * 28) ≤ 2431 + (d + 1) * 28; omega⟩) hK hN hg (recv_x (ci := 1) (C := RX1) (T := TX1) (N := 2) hg hK (by decide) rfl (by decide) rfl) rfl hl.1 rfl (cat_sum _ (by simp)) dX1_blend_92 (show (sz s24 - sz σ) + (tp - sz s24) ≤ tp - sz σ ∧ 9 * (sz s24 - sz σ) + 9 * (tp - sz s24) ≤ 9 * (tp - sz σ) by have q1 := hm.2.1; have q2 := hm.2.2; omega)) hg (fun r32 s31 H locs hz33 hm2 h hg => ?_)
        have hS34 : ∀ b, r18 = some b → sS s31 b := (fun b h0 => hm2.1 b (hS27 b h0))
        have hS35 : ∀ b, a2 = some b → sS s31 b := (fun b h0 => hm2.1 b (hS28 b h0))
        have hS36 : ∀ b, a3 = some b → sS s31 b := (fun b h0 => hm2.1 b (hS29 b h0))
        have hm := hm.ta hm2
        refine W_narrow hg hH (show sz s31 ≤ sz σ + (sz s31 - sz σ) by have q1 := hm.2.1; omega) (Nat.le_refl _) ?_
        refine q_astore (i := 6) (lv' := [(6, va_rf (r32)), (5, va_rf (r18)), (0, .ref (ea E 2)), (1, .int (iI (a1))), (2, va_rf (a2)), (3, va_rf (a3)), (4, .int (iI (a4)))]) hx hb dX1_blend_95 hl (by decide) (by simp [List.filter_cons, rf_cat, ct_i, ct_l, ct_x]) (fun ls hl => ?_)
        refine q_aload_n hx hb dX1_blend_97 rfl (lv_at hl 5 rfl) ?_
        refine q_aload_n hx hb dX1_blend_98 rfl (lv_at hl 4 rfl) ?_
        refine q_ngeti_o c1 hx hb hts (fun _ h9 => List.mem_cons_of_mem _ (List.mem_append_left _ (List.mem_append_left _ (List.mem_append_right _ h9)))) hown hK hg (hS35 b2 c1) 0 (by decide) (hts (.fieldLink RX1 21 "JoinMaps$Node" "key" "I") (List.mem_cons_of_mem _ (List.mem_append_left _ (List.mem_append_left _ (List.mem_append_left _ (List.mem_append_left _ (List.mem_of_getElem? (i := 2) rfl))))))) rfl rfl dX1_blend_99 ?_
        have hR37 := GS_R hg (b2 + 64) 0
        refine call_r (run_S (As := [va_rf (a3), .int (iI ((sn s31 (b2 + 64) 0)))]) (rest := []) ⟨hx, hb, hml, hown, hts⟩ (ctX3_find l E a3 (sn s31 (b2 + 64) 0) s31 _ hS36 hR37 h) (va_cwS 2 hts gX1_blend_X3_find rfl rfl rfl hdX3_find ⟨by show 0 + 1 ≤ 95 + (d + 1); omega, by show 8 + (3 + 11) + 0 ≤ 2431 + (d + 1) * 28; omega⟩) hK hN hg rfl hl.1 rfl (cat_sum _ (by simp)) dX1_blend_102 (show (sz s31 - sz σ) + 0 ≤ tp - sz σ ∧ 9 * (sz s31 - sz σ) + 0 ≤ 9 * (tp - sz σ) by have q1 := hm.2.1; have q2 := hm.2.2; omega)) hg (fun r39 s38 H locs hz40 hm2 h hg => ?_)
        have hS41 : ∀ b, r32 = some b → sS s38 b := (fun b h0 => hm2.1 b (hz33 b h0))
        have hS42 : ∀ b, r18 = some b → sS s38 b := (fun b h0 => hm2.1 b (hS34 b h0))
        have hS43 : ∀ b, a2 = some b → sS s38 b := (fun b h0 => hm2.1 b (hS35 b h0))
        have hS44 : ∀ b, a3 = some b → sS s38 b := (fun b h0 => hm2.1 b (hS36 b h0))
        have hm := hm.tn hm2
        refine W_narrow hg hH (show sz s38 ≤ sz σ + (sz s38 - sz σ) by have q1 := hm.2.1; omega) (Nat.le_refl _) ?_
        refine q_astore (i := 7) (lv' := [(7, va_rf (r39)), (6, va_rf (r32)), (5, va_rf (r18)), (0, .ref (ea E 2)), (1, .int (iI (a1))), (2, va_rf (a2)), (3, va_rf (a3)), (4, .int (iI (a4)))]) hx hb dX1_blend_105 hl (by decide) (by simp [List.filter_cons, rf_cat, ct_i, ct_l, ct_x]) (fun ls hl => ?_)
        refine q_aload hx hb dX1_blend_107 (lv_at hl 0 rfl) ?_
        refine j_nonnull (tgt := 125) hx hb dX1_blend_109 (by decide) (fun b46 c45 => ?_) (fun c45 => ?_)
        · have h := h.2 b46 c45
          refine lv_iload_n hx hb dX1_blend_125 rfl (lv_at hl 4 rfl) ?_
          refine k_eq (tgt := 134) hx hb dX1_blend_126 (by decide) ha1 (fun c47 => ?_) (fun c47 => ?_)
          · have h := h.1 c47
            exact J134 _ (fun v5 v6 v7 u0 sL H locs ls mv5 mv6 mv7 hg hm hl h => J139  v5 v6 v7 u0 sL H locs ls mv5 mv6 mv7 hg hm hl h) (r18) (r32) (r39) (s38) _ _ _ hS42 hS41 hz40 hg hm (lv_sub hl [3, 5, 2, 1, 0] rfl) h
          · have h := h.2 c47
            refine lv_iload_n hx hb dX1_blend_129 rfl (lv_at hl 4 rfl) ?_
            refine lv_iconst (v := iI 1) hx hb dX1_blend_130 (by decide) ?_
            refine j_ne (tgt := 138) hx hb dX1_blend_131 (by decide) ha1 (by decide) (fun c48 => ?_) (fun c48 => ?_)
            · have h := h.1 c48
              refine lv_iconst (v := iI 0) hx hb dX1_blend_138 (by decide) ?_
              exact J139  (r18) (r32) (r39) (0) (s38) _ _ _ hS42 hS41 hz40 hg hm (lv_sub hl [3, 5, 2, 1, 0] rfl) h
            · have h := h.2 c48
              exact J134 _ (fun v5 v6 v7 u0 sL H locs ls mv5 mv6 mv7 hg hm hl h => J139  v5 v6 v7 u0 sL H locs ls mv5 mv6 mv7 hg hm hl h) (r18) (r32) (r39) (s38) _ _ _ hS42 hS41 hz40 hg hm (lv_sub hl [3, 5, 2, 1, 0] rfl) h
        · have h := h.1 c45
          refine lv_iload_n hx hb dX1_blend_112 rfl (lv_at hl 4 rfl) ?_
          refine lv_iconst (v := iI 1) hx hb dX1_blend_113 (by decide) ?_
          refine j_eq (tgt := 121) hx hb dX1_blend_114 (by decide) ha1 (by decide) (fun c49 => ?_) (fun c49 => ?_)
          · have h := h.1 c49
            refine lv_iconst (v := iI 0) hx hb dX1_blend_121 (by decide) ?_
            refine lv_goto (tgt := 139) hx hb dX1_blend_122 (by decide) ?_
            exact J139  (r18) (r32) (r39) (0) (s38) _ _ _ hS42 hS41 hz40 hg hm (lv_sub hl [3, 5, 2, 1, 0] rfl) h
          · have h := h.2 c49
            refine lv_iconst (v := iI 1) hx hb dX1_blend_117 (by decide) ?_
            refine lv_goto (tgt := 139) hx hb dX1_blend_118 (by decide) ?_
            exact J139  (r18) (r32) (r39) (1) (s38) _ _ _ hS42 hS41 hz40 hg hm (lv_sub hl [3, 5, 2, 1, 0] rfl) h
      · have h := h.1 c6
        refine lv_iload_n hx hb dX1_blend_30 rfl (lv_at hl 1 rfl) ?_
        refine lv_iconst (v := iI 1) hx hb dX1_blend_31 (by decide) ?_
        refine j_ne (tgt := 39) hx hb dX1_blend_32 (by decide) ha1 (by decide) (fun c50 => ?_) (fun c50 => ?_)
        · have h := h.1 c50
          refine q_aload_n hx hb dX1_blend_39 rfl (lv_at hl 2 rfl) ?_
          refine W.widen (k := tp - sz σ) (n := 9 * (tp - sz σ)) (show sz σ - sz σ ≤ _ by have q1 := hm.2.2; omega) (show 9 * (sz σ - sz σ) ≤ _ by have q1 := hm.2.2; omega) ?_
          exact ret_r hx hb hr hlocks hg ha2 hm h dX1_blend_40
        · have h := h.2 c50
          refine q_null hx hb dX1_blend_35 ?_
          refine lv_goto (tgt := 40) hx hb dX1_blend_36 (by decide) ?_
          refine W.widen (k := tp - sz σ) (n := 9 * (tp - sz σ)) (show sz σ - sz σ ≤ _ by have q1 := hm.2.2; omega) (show 9 * (sz σ - sz σ) ≤ _ by have q1 := hm.2.2; omega) ?_
          exact ret_r hx hb hr hlocks hg (fun b h0 => by cases h0) hm h dX1_blend_40
    · have h := h.2 c5
      refine lv_iload_n hx hb dX1_blend_11 rfl (lv_at hl 1 rfl) ?_
      refine k_eq (tgt := 20) hx hb dX1_blend_12 (by decide) ha1 (fun c51 => ?_) (fun c51 => ?_)
      · have h := h.1 c51
        refine q_aload_n hx hb dX1_blend_20 rfl (lv_at hl 3 rfl) ?_
        refine lv_goto (tgt := 25) hx hb dX1_blend_21 (by decide) ?_
        refine W.widen (k := tp - sz σ) (n := 9 * (tp - sz σ)) (show sz σ - sz σ ≤ _ by have q1 := hm.2.2; omega) (show 9 * (sz σ - sz σ) ≤ _ by have q1 := hm.2.2; omega) ?_
        exact ret_r hx hb hr hlocks hg ha3 hm h dX1_blend_25
      · have h := h.2 c51
        refine lv_iload_n hx hb dX1_blend_15 rfl (lv_at hl 1 rfl) ?_
        refine lv_iconst (v := iI 3) hx hb dX1_blend_16 (by decide) ?_
        refine j_ne (tgt := 24) hx hb dX1_blend_17 (by decide) ha1 (by decide) (fun c52 => ?_) (fun c52 => ?_)
        · have h := h.1 c52
          refine q_null hx hb dX1_blend_24 ?_
          refine W.widen (k := tp - sz σ) (n := 9 * (tp - sz σ)) (show sz σ - sz σ ≤ _ by have q1 := hm.2.2; omega) (show 9 * (sz σ - sz σ) ≤ _ by have q1 := hm.2.2; omega) ?_
          exact ret_r hx hb hr hlocks hg (fun b h0 => by cases h0) hm h dX1_blend_25
        · have h := h.2 c52
          refine q_aload_n hx hb dX1_blend_20 rfl (lv_at hl 3 rfl) ?_
          refine lv_goto (tgt := 25) hx hb dX1_blend_21 (by decide) ?_
          refine W.widen (k := tp - sz σ) (n := 9 * (tp - sz σ)) (show sz σ - sz σ ≤ _ by have q1 := hm.2.2; omega) (show 9 * (sz σ - sz σ) ≤ _ by have q1 := hm.2.2; omega) ?_
          exact ret_r hx hb hr hlocks hg ha3 hm h dX1_blend_25
theorem hdX2_isCrowded : yX2_isCrowded.cls ≠ "java/lang/invoke/MethodHandle" ∧ yX2_isCrowded.cls ≠ "java/lang/invoke/VarHandle" ∧ (parseMethodDescriptor yX2_isCrowded.desc).map (fun d => d.parameters.length) = some 0 := by decide +kernel
set_option maxRecDepth 100000 in
set_option maxHeartbeats 4000000 in
theorem ctX2_isCrowded (l : Launch) (E : Ev)  (σ : SS) (Q : Int → SS → Prop)  (h : wX2_isCrowded  σ Q) : Met l yX2_isCrowded wsX2_isCrowded ({ frames := 0, cells := 0, slots := 0, locals := 0 } : Room) (Pc E σ [.ref (ea E 1)]) (Qz E (sz σ) σ Q) 0 0 (Av E) := by
  rw [wX2_isCrowded] at h
  refine Met.ofW (cc := cX2_isCrowded) (maxL := 1) (ret := (some .boolean)) (by decide) rfl ?_
  intro p e s m args below meth c s₁ B hml hv
  obtain ⟨rfl, hH, hK, hN⟩ := hv
  have hx := B.exec
  have hb := B.bytes
  have hr := B.returns
  have hts := atoms_spec (ws := wsX2_isCrowded) B.pre
  have hown : s.vm.findClass RX2 = some m.cls := findClass_of_methodNamed B.named
  have hlocks := B.notSynchronized
  have hg : GS E σ s s.heap [] := ⟨hH, va_S.rf⟩
  have hm : Mo (sz σ) σ σ := Mo.rf (Nat.le_refl _)
  have hl := ent (vs := [.ref (ea E 1)]) (n := 1) (cats_x cats_nil) (Nat.le_of_ble_eq_true rfl)
  rw [lg_entry_eq]
  generalize (lg_sl ([.ref (ea E 1)]) ++ List.replicate (1 - (lg_sl ([.ref (ea E 1)])).length) Slot.unset).toArray = ls at hl ⊢
  have hl : lv_has ls 1 [(0, .ref (ea E 1))] := hl
  refine lv_aload_n hx hb dX2_isCrowded_0 rfl (lv_at hl 0 rfl) ?_
  refine q_geti (ci := 2) (C := RX2) (T := TX2) (N := 4) hx hb hts (fun _ h9 => List.mem_cons_of_mem _ (List.mem_append_right _ h9)) hown hK hg 1 (by decide) rfl rfl (by decide) rfl 2 (by decide) (hts (.fieldLink RX2 27 "JoinMaps$Grove" "taken" "I") (List.mem_cons_of_mem _ (List.mem_append_left _ (List.mem_of_getElem? (i := 0) rfl)))) rfl rfl dX2_isCrowded_1 ?_
  have hR1 := GS_R hg 1 2
  refine lv_sipush (v := iI 8192) hx hb dX2_isCrowded_4 (by decide) ?_
  refine j_lt (tgt := 14) hx hb dX2_isCrowded_7 (by decide) hR1 (by decide) (fun c2 => ?_) (fun c2 => ?_)
  · have h := h.1 c2
    refine lv_iconst (v := iI 0) hx hb dX2_isCrowded_14 (by decide) ?_
    exact ret_z hx hb hr hlocks hg (by decide) hm h dX2_isCrowded_15
  · have h := h.2 c2
    refine lv_iconst (v := iI 1) hx hb dX2_isCrowded_10 (by decide) ?_
    refine lv_goto (tgt := 15) hx hb dX2_isCrowded_11 (by decide) ?_
    exact ret_z hx hb hr hlocks hg (by decide) hm h dX2_isCrowded_15
theorem hdX2_startKeeping : yX2_startKeeping.cls ≠ "java/lang/invoke/MethodHandle" ∧ yX2_startKeeping.cls ≠ "java/lang/invoke/VarHandle" ∧ (parseMethodDescriptor yX2_startKeeping.desc).map (fun d => d.parameters.length) = some 0 := by decide +kernel
set_option maxRecDepth 100000 in
set_option maxHeartbeats 4000000 in
theorem ctX2_startKeeping (l : Launch) (E : Ev)  (σ : SS) (Q : SS → Prop)  (h : wX2_startKeeping  σ Q) : Met l yX2_startKeeping wsX2_startKeeping ({ frames := 0, cells := 0, slots := 0, locals := 0 } : Room) (Pc E σ [.ref (ea E 1)]) (Qv E (sz σ) σ Q) 0 0 (Av E) := by
  rw [wX2_startKeeping] at h
  refine Met.ofW (cc := cX2_startKeeping) (maxL := 1) (ret := none) (by decide) rfl ?_
  intro p e s m args below meth c s₁ B hml hv
  obtain ⟨rfl, hH, hK, hN⟩ := hv
  have hx := B.exec
  have hb := B.bytes
  have hr := B.returns
  have hts := atoms_spec (ws := wsX2_startKeeping) B.pre
  have hown : s.vm.findClass RX2 = some m.cls := findClass_of_methodNamed B.named
  have hlocks := B.notSynchronized
  have hg : GS E σ s s.heap [] := ⟨hH, va_S.rf⟩
  have hm : Mo (sz σ) σ σ := Mo.rf (Nat.le_refl _)
  have hl := ent (vs := [.ref (ea E 1)]) (n := 1) (cats_x cats_nil) (Nat.le_of_ble_eq_true rfl)
  rw [lg_entry_eq]
  generalize (lg_sl ([.ref (ea E 1)]) ++ List.replicate (1 - (lg_sl ([.ref (ea E 1)])).length) Slot.unset).toArray = ls at hl ⊢
  have hl : lv_has ls 1 [(0, .ref (ea E 1))] := hl
  refine lv_aload_n hx hb dX2_startKeeping_0 rfl (lv_at hl 0 rfl) ?_
  refine lv_dup hx hb dX2_startKeeping_1 rfl ?_
  refine q_geti (ci := 2) (C := RX2) (T := TX2) (N := 4) hx hb hts (fun _ h9 => List.mem_cons_of_mem _ (List.mem_append_right _ h9)) hown hK hg 1 (by decide) rfl rfl (by decide) rfl 3 (by decide) (hts (.fieldLink RX2 58 "JoinMaps$Grove" "round" "I") (List.mem_cons_of_mem _ (List.mem_append_left _ (List.mem_of_getElem? (i := 0) rfl)))) rfl rfl dX2_startKeeping_2 ?_
  have hR1 := GS_R hg 1 3
  refine lv_iconst (v := iI 1) hx hb dX2_startKeeping_5 (by decide) ?_
  refine q_iadd hx hb dX2_startKeeping_6 ?_
  obtain ⟨hR2, h⟩ := h
  refine q_puti (ci := 2) (C := RX2) (T := TX2) (N := 4) hx hb hts (fun _ h9 => List.mem_cons_of_mem _ (List.mem_append_right _ h9)) tyX2 tyX2_ok nmX2 hown hK hg 1 (by decide) rfl rfl (by decide) rfl 3 (by decide) (hts (.fieldLink RX2 58 "JoinMaps$Grove" "round" "I") (List.mem_cons_of_mem _ (List.mem_append_left _ (List.mem_of_getElem? (i := 0) rfl)))) rfl rfl (by decide +kernel) rfl hR2 dX2_startKeeping_7 (fun H locs hg => ?_)
  exact ret_v hx hb hr hlocks hg hm h dX2_startKeeping_10
theorem hdX2_keep : yX2_keep.cls ≠ "java/lang/invoke/MethodHandle" ∧ yX2_keep.cls ≠ "java/lang/invoke/VarHandle" ∧ (parseMethodDescriptor yX2_keep.desc).map (fun d => d.parameters.length) = some 2 := by decide +kernel
set_option maxRecDepth 100000 in
set_option maxHeartbeats 4000000 in
theorem ctX2_keep (l : Launch) (E : Ev) : ∀ (d : Nat) (a1 : Option Nat) (a2 : Int) (σ : SS) (Q : SS → Prop) (ha1 : ∀ b, a1 = some b → sS σ b) (ha2 : R32 a2) (h : wX2_keep d a1 a2 σ Q), Met l yX2_keep wsX2_keep ({ frames := 0 + d, cells := 0, slots := 0, locals := 0 + d * 22 } : Room) (Pc E σ [.ref (ea E 1), va_rf (a1), .int (iI (a2))]) (Qv E (sz σ) σ Q) 0 0 (Av E) := by
  intro d
  induction d with
  | zero => intro a1 a2 σ Q ha1 ha2 h; exact False.elim h
  | succ d ih =>
  intro a1 a2 σ Q ha1 ha2 h
  rw [wX2_keep] at h
  refine Met.ofW (cc := cX2_keep) (maxL := 3) (ret := none) (by decide) rfl ?_
  intro p e s m args below meth c s₁ B hml hv
  obtain ⟨rfl, hH, hK, hN⟩ := hv
  have hx := B.exec
  have hb := B.bytes
  have hr := B.returns
  have hts := atoms_spec (ws := wsX2_keep) B.pre
  have hown : s.vm.findClass RX2 = some m.cls := findClass_of_methodNamed B.named
  have hlocks := B.notSynchronized
  have hg : GS E σ s s.heap [] := ⟨hH, va_S.rf⟩
  have hm : Mo (sz σ) σ σ := Mo.rf (Nat.le_refl _)
  have hl := ent (vs := [.ref (ea E 1), va_rf (a1), .int (iI (a2))]) (n := 3) (cats_x (cats_r (cats_i cats_nil))) (Nat.le_of_ble_eq_true rfl)
  rw [lg_entry_eq]
  generalize (lg_sl ([.ref (ea E 1), va_rf (a1), .int (iI (a2))]) ++ List.replicate (3 - (lg_sl ([.ref (ea E 1), va_rf (a1), .int (iI (a2))])).length) Slot.unset).toArray = ls at hl ⊢
  have hl : lv_has ls 3 [(0, .ref (ea E 1)), (1, va_rf (a1)), (2, .int (iI (a2)))] := hl
  refine q_aload_n hx hb dX2_keep_0 rfl (lv_at hl 1 rfl) ?_
  refine j_null (tgt := 21) hx hb dX2_keep_1 (by decide) (fun c1 => ?_) (fun b2 c1 => ?_)
  · have h := h.1 c1
    exact ret_v hx hb hr hlocks hg hm h dX2_keep_21
  · have h := h.2 b2 c1
    refine q_aload_n hx hb dX2_keep_4 rfl (lv_at hl 1 rfl) ?_
    refine q_ngeti_o c1 hx hb hts (fun _ h9 => List.mem_cons_of_mem _ (List.mem_append_left _ (List.mem_append_right _ h9))) hown hK hg (ha1 b2 c1) 8 (by decide) (hts (.fieldLink RX2 65 "JoinMaps$Node" "keptRound" "I") (List.mem_cons_of_mem _ (List.mem_append_left _ (List.mem_append_left _ (List.mem_of_getElem? (i := 0) rfl))))) rfl rfl dX2_keep_5 ?_
    have hR3 := GS_R hg (b2 + 64) 8
    refine lv_aload_n hx hb dX2_keep_8 rfl (lv_at hl 0 rfl) ?_
    refine q_geti (ci := 2) (C := RX2) (T := TX2) (N := 4) hx hb hts (fun _ h9 => List.mem_cons_of_mem _ (List.mem_append_right _ h9)) hown hK hg 1 (by decide) rfl rfl (by decide) rfl 3 (by decide) (hts (.fieldLink RX2 58 "JoinMaps$Grove" "round" "I") (List.mem_cons_of_mem _ (List.mem_append_left _ (List.mem_append_left _ (List.mem_of_getElem? (i := 1) rfl))))) rfl rfl dX2_keep_9 ?_
    have hR4 := GS_R hg 1 3
    refine j_eq (tgt := 21) hx hb dX2_keep_12 (by decide) hR3 hR4 (fun c5 => ?_) (fun c5 => ?_)
    · have h := h.1 c5
      exact ret_v hx hb hr hlocks hg hm h dX2_keep_21
    · have h := h.2 c5
      refine lv_iload_n hx hb dX2_keep_15 rfl (lv_at hl 2 rfl) ?_
      refine lv_bipush (v := iI 40) hx hb dX2_keep_16 (by decide) ?_
      refine j_le (tgt := 22) hx hb dX2_keep_18 (by decide) ha2 (by decide) (fun c6 => ?_) (fun c6 => ?_)
      · have h := h.1 c6
        refine q_aload_n hx hb dX2_keep_22 rfl (lv_at hl 1 rfl) ?_
        refine lv_aload_n hx hb dX2_keep_23 rfl (lv_at hl 0 rfl) ?_
        refine q_geti (ci := 2) (C := RX2) (T := TX2) (N := 4) hx hb hts (fun _ h9 => List.mem_cons_of_mem _ (List.mem_append_right _ h9)) hown hK hg 1 (by decide) rfl rfl (by decide) rfl 3 (by decide) (hts (.fieldLink RX2 58 "JoinMaps$Grove" "round" "I") (List.mem_cons_of_mem _ (List.mem_append_left _ (List.mem_append_left _ (List.mem_of_getElem? (i := 1) rfl))))) rfl rfl dX2_keep_24 ?_
        have hR7 := GS_R hg 1 3
        refine q_nputi_o c1 hx hb hts (fun _ h9 => List.mem_cons_of_mem _ (List.mem_append_left _ (List.mem_append_right _ h9))) hown hK hg (ha1 b2 c1) 8 (by decide) (hts (.fieldLink RX2 65 "JoinMaps$Node" "keptRound" "I") (List.mem_cons_of_mem _ (List.mem_append_left _ (List.mem_append_left _ (List.mem_of_getElem? (i := 0) rfl))))) rfl rfl (by decide +kernel) rfl hR7 dX2_keep_27 (fun H locs hg => ?_)
        refine lv_aload_n hx hb dX2_keep_30 rfl (lv_at hl 0 rfl) ?_
        refine q_aload_n hx hb dX2_keep_31 rfl (lv_at hl 1 rfl) ?_
        refine q_ngetr_o c1 hx hb hts (fun _ h9 => List.mem_cons_of_mem _ (List.mem_append_left _ (List.mem_append_right _ h9))) hown hK hg (ha1 b2 c1) 4 (by decide) (hts (.fieldLink RX2 37 "JoinMaps$Node" "left" "LJoinMaps$Node;") (List.mem_cons_of_mem _ (List.mem_append_left _ (List.mem_append_left _ (List.mem_of_getElem? (i := 2) rfl))))) rfl rfl dX2_keep_32 ?_
        have hS8 : ∀ b, (sf (un σ (b2 + 64) 8 ((sn σ 1 3))) (b2 + 64) 4) = some b → sS (un σ (b2 + 64) 8 ((sn σ 1 3))) b := fun b h0 => GS_F hg h0
        refine lv_iload_n hx hb dX2_keep_35 rfl (lv_at hl 2 rfl) ?_
        refine lv_iconst (v := iI 1) hx hb dX2_keep_36 (by decide) ?_
        refine q_iadd hx hb dX2_keep_37 ?_
        obtain ⟨hR9, h⟩ := h
        refine call_v (run_V (a := ea E 1) (As := [va_rf ((sf (un σ (b2 + 64) 8 ((sn σ 1 3))) (b2 + 64) 4)), .int (iI ((a2 + 1)))]) (rest := []) ⟨hx, hb, hml, hown, hts⟩ (ih (sf (un σ (b2 + 64) 8 ((sn σ 1 3))) (b2 + 64) 4) (a2 + 1) (un σ (b2 + 64) 8 ((sn σ 1 3))) _ hS8 hR9 h) (cwV 2 hts gX2_keep_X2_keep rfl rfl rfl ⟨rfl, hdX2_keep⟩ ⟨by show 0 + d + 1 ≤ 0 + (d + 1); omega, by show 8 + (3 + 11) + (0 + d * 22) ≤ 0 + (d + 1) * 22; omega⟩) hK hN hg (recv_x (ci := 2) (C := RX2) (T := TX2) (N := 4) hg hK (by decide) rfl (by decide) rfl) rfl hl.1 rfl (cat_sum _ (by simp)) dX2_keep_38 ⟨Nat.le_refl 0, Nat.le_refl 0⟩) hg (fun s10 H locs hm2 h hg => ?_)
        have hS13 : ∀ b, a1 = some b → sS s10 b := (fun b h0 => hm2.1 b (ha1 b h0))
        have hm := hm.tn hm2
        refine lv_aload_n hx hb dX2_keep_41 rfl (lv_at hl 0 rfl) ?_
        refine q_aload_n hx hb dX2_keep_42 rfl (lv_at hl 1 rfl) ?_
        refine q_ngetr_o c1 hx hb hts (fun _ h9 => List.mem_cons_of_mem _ (List.mem_append_left _ (List.mem_append_right _ h9))) hown hK hg (hS13 b2 c1) 5 (by decide) (hts (.fieldLink RX2 40 "JoinMaps$Node" "right" "LJoinMaps$Node;") (List.mem_cons_of_mem _ (List.mem_append_left _ (List.mem_append_left _ (List.mem_of_getElem? (i := 3) rfl))))) rfl rfl dX2_keep_43 ?_
        have hS14 : ∀ b, (sf s10 (b2 + 64) 5) = some b → sS s10 b := fun b h0 => GS_F hg h0
        refine lv_iload_n hx hb dX2_keep_46 rfl (lv_at hl 2 rfl) ?_
        refine lv_iconst (v := iI 1) hx hb dX2_keep_47 (by decide) ?_
        refine q_iadd hx hb dX2_keep_48 ?_
        refine call_v (run_V (a := ea E 1) (As := [va_rf ((sf s10 (b2 + 64) 5)), .int (iI ((a2 + 1)))]) (rest := []) ⟨hx, hb, hml, hown, hts⟩ (ih (sf s10 (b2 + 64) 5) (a2 + 1) s10 _ hS14 hR9 h) (cwV 2 hts gX2_keep_X2_keep rfl rfl rfl ⟨rfl, hdX2_keep⟩ ⟨by show 0 + d + 1 ≤ 0 + (d + 1); omega, by show 8 + (3 + 11) + (0 + d * 22) ≤ 0 + (d + 1) * 22; omega⟩) hK hN hg (recv_x (ci := 2) (C := RX2) (T := TX2) (N := 4) hg hK (by decide) rfl (by decide) rfl) rfl hl.1 rfl (cat_sum _ (by simp)) dX2_keep_49 ⟨Nat.le_refl 0, Nat.le_refl 0⟩) hg (fun s15 H locs hm2 h hg => ?_)
        have hS18 : ∀ b, a1 = some b → sS s15 b := (fun b h0 => hm2.1 b (hS13 b h0))
        have hm := hm.tn hm2
        exact ret_v hx hb hr hlocks hg hm h dX2_keep_52
      · have h := h.2 c6
        exact ret_v hx hb hr hlocks hg hm h dX2_keep_21
theorem hdX2_keepAll : yX2_keepAll.cls ≠ "java/lang/invoke/MethodHandle" ∧ yX2_keepAll.cls ≠ "java/lang/invoke/VarHandle" ∧ (parseMethodDescriptor yX2_keepAll.desc).map (fun d => d.parameters.length) = some 1 := by decide +kernel
set_option maxRecDepth 100000 in
set_option maxHeartbeats 4000000 in
theorem ctX2_keepAll (l : Launch) (E : Ev) (x1 : Nat) (σ : SS) (Q : SS → Prop) (hx1 : x1 = 3 ∨ x1 = 5 ∨ x1 = 13 ∨ x1 = 14) (h : wX2_keepAll x1 σ Q) : Met l yX2_keepAll wsX2_keepAll ({ frames := 45, cells := 0, slots := 0, locals := 990 } : Room) (Pc E σ [.ref (ea E 1), .ref (ea E x1)]) (Qv E (sz σ) σ Q) 0 0 (Av E) := by
  rw [wX2_keepAll] at h
  refine Met.ofW (cc := cX2_keepAll) (maxL := 3) (ret := none) (by decide) rfl ?_
  intro p e s m args below meth c s₁ B hml hv
  obtain ⟨rfl, hH, hK, hN⟩ := hv
  have hx := B.exec
  have hb := B.bytes
  have hr := B.returns
  have hts := atoms_spec (ws := wsX2_keepAll) B.pre
  have hown : s.vm.findClass RX2 = some m.cls := findClass_of_methodNamed B.named
  have hlocks := B.notSynchronized
  have hg : GS E σ s s.heap [] := ⟨hH, va_S.rf⟩
  have hm : Mo (sz σ) σ σ := Mo.rf (Nat.le_refl _)
  obtain ⟨hx1_0, hx1_1, hx1_2⟩ := arrF hx1
  have hl := ent (vs := [.ref (ea E 1), .ref (ea E x1)]) (n := 3) (cats_x (cats_x cats_nil)) (Nat.le_of_ble_eq_true rfl)
  rw [lg_entry_eq]
  generalize (lg_sl ([.ref (ea E 1), .ref (ea E x1)]) ++ List.replicate (3 - (lg_sl ([.ref (ea E 1), .ref (ea E x1)])).length) Slot.unset).toArray = ls at hl ⊢
  have hl : lv_has ls 3 [(0, .ref (ea E 1)), (1, .ref (ea E x1))] := hl
  have J2 : ∀ (k : Nat), ∀ (v2 : Int) (sL : SS) (H : Heap) (locs : List Loc) (ls : Array Slot), GS E sL s H locs → Mo (sz σ) σ sL → lv_has ls 3 [(0, .ref (ea E 1)), (1, .ref (ea E x1)), (2, .int (iI (v2)))] → wX2_keepAll_L2 x1 Q  k v2 sL → W p l e (headSpec wsX2_keepAll ({ frames := 45, cells := 0, slots := 0, locals := 990 } : Room)).room s m (List.toArray [.ref (ea E 1), .ref (ea E x1)]) below meth c H locs 0 0 (MQ below (Qv E (sz σ) σ Q) (List.toArray [.ref (ea E 1), .ref (ea E x1)]) s 0 0 (Av E)) (F0 m 2 ls []) := by
    intro k
    induction k with
    | zero => intro v2 sL H locs ls hg hm hl h; exact False.elim h
    | succ k ih =>
      intro v2 sL H locs ls hg hm hl h
      rw [wX2_keepAll_L2] at h
      refine lv_iload_n hx hb dX2_keepAll_2 rfl (lv_at hl 2 rfl) ?_
      refine lv_aload_n hx hb dX2_keepAll_3 rfl (lv_at hl 1 rfl) ?_
      refine q_alen (N := (fln x1)) hx hb hK hg x1 hx1_0 (Or.inr (Or.inr hx1_1)) rfl dX2_keepAll_4 ?_
      obtain ⟨hR1, h⟩ := h
      refine j_ge (tgt := 22) hx hb dX2_keepAll_5 (by decide) hR1 (lenR hx1_2) (fun c2 => ?_) (fun c2 => ?_)
      · have h := h.1 c2
        exact ret_v hx hb hr hlocks hg hm h dX2_keepAll_22
      · have h := h.2 c2
        refine lv_aload_n hx hb dX2_keepAll_8 rfl (lv_at hl 0 rfl) ?_
        refine lv_aload_n hx hb dX2_keepAll_9 rfl (lv_at hl 1 rfl) ?_
        refine lv_iload_n hx hb dX2_keepAll_10 rfl (lv_at hl 2 rfl) ?_
        obtain ⟨hP3, hP4, h⟩ := h
        refine q_aald (N := (fln x1)) hx hb hK hg x1 hx1_0 hx1_1 rfl hP3 hP4 hx1_2 dX2_keepAll_11 ?_
        have hS5 : ∀ b, (sf sL x1 (v2 : Int).toNat) = some b → sS sL b := fun b h0 => GS_F hg h0
        refine lv_iconst (v := iI 0) hx hb dX2_keepAll_12 (by decide) ?_
        refine call_v (run_V (a := ea E 1) (As := [va_rf ((sf sL x1 (v2 : Int).toNat)), .int (iI (0))]) (rest := []) ⟨hx, hb, hml, hown, hts⟩ (ctX2_keep l E 44 (sf sL x1 (v2 : Int).toNat) 0 sL _ hS5 (by decide) h) (cwV 2 hts gX2_keepAll_X2_keep rfl rfl rfl ⟨rfl, hdX2_keep⟩ ⟨Nat.le_of_ble_eq_true rfl, Nat.le_of_ble_eq_true rfl⟩) hK hN hg (recv_x (ci := 2) (C := RX2) (T := TX2) (N := 4) hg hK (by decide) rfl (by decide) rfl) rfl hl.1 rfl (cat_sum _ (by simp)) dX2_keepAll_13 ⟨Nat.le_refl 0, Nat.le_refl 0⟩) hg (fun s6 H locs hm2 h hg => ?_)
        have hm := hm.tn hm2
        refine lv_iinc (v := iI (v2 + 1)) (lv' := [(2, .int (iI (v2 + 1))), (0, .ref (ea E 1)), (1, .ref (ea E x1))]) hx hb dX2_keepAll_16 hl (k := 2) rfl (iI_add _ _) (by decide) rfl (fun ls hl => ?_)
        refine lv_goto (tgt := 2) hx hb dX2_keepAll_19 (by decide) ?_
        exact ih (v2 + 1) (s6) _ _ _ hg hm (lv_sub hl [1, 2, 0] rfl) h
  refine lv_iconst (v := iI 0) hx hb dX2_keepAll_0 (by decide) ?_
  refine lv_istore_n (i := 2) (lv' := [(2, .int (iI (0))), (0, .ref (ea E 1)), (1, .ref (ea E x1))]) hx hb dX2_keepAll_1 rfl hl (by decide) rfl (fun ls hl => ?_)
  obtain ⟨kk, h⟩ := h
  exact J2  kk (0) (σ) _ _ _ hg hm (lv_sub hl [1, 2, 0] rfl) h
theorem hdX2_spareTheRest : yX2_spareTheRest.cls ≠ "java/lang/invoke/MethodHandle" ∧ yX2_spareTheRest.cls ≠ "java/lang/invoke/VarHandle" ∧ (parseMethodDescriptor yX2_spareTheRest.desc).map (fun d => d.parameters.length) = some 0 := by decide +kernel
set_option maxRecDepth 100000 in
set_option maxHeartbeats 4000000 in
theorem ctX2_spareTheRest (l : Launch) (E : Ev)  (σ : SS) (Q : SS → Prop)  (h : wX2_spareTheRest  σ Q) : Met l yX2_spareTheRest wsX2_spareTheRest ({ frames := 0, cells := 0, slots := 0, locals := 0 } : Room) (Pc E σ [.ref (ea E 1)]) (Qv E (sz σ) σ Q) 0 0 (Av E) := by
  rw [wX2_spareTheRest] at h
  refine Met.ofW (cc := cX2_spareTheRest) (maxL := 2) (ret := none) (by decide) rfl ?_
  intro p e s m args below meth c s₁ B hml hv
  obtain ⟨rfl, hH, hK, hN⟩ := hv
  have hx := B.exec
  have hb := B.bytes
  have hr := B.returns
  have hts := atoms_spec (ws := wsX2_spareTheRest) B.pre
  have hown : s.vm.findClass RX2 = some m.cls := findClass_of_methodNamed B.named
  have hlocks := B.notSynchronized
  have hg : GS E σ s s.heap [] := ⟨hH, va_S.rf⟩
  have hm : Mo (sz σ) σ σ := Mo.rf (Nat.le_refl _)
  have hl := ent (vs := [.ref (ea E 1)]) (n := 2) (cats_x cats_nil) (Nat.le_of_ble_eq_true rfl)
  rw [lg_entry_eq]
  generalize (lg_sl ([.ref (ea E 1)]) ++ List.replicate (2 - (lg_sl ([.ref (ea E 1)])).length) Slot.unset).toArray = ls at hl ⊢
  have hl : lv_has ls 2 [(0, .ref (ea E 1))] := hl
  have J15 : ∀ (k : Nat), ∀ (v1 : Option Nat) (sL : SS) (H : Heap) (locs : List Loc) (ls : Array Slot), (∀ b, v1 = some b → sS sL b) → GS E sL s H locs → Mo (sz σ) σ sL → lv_has ls 2 [(0, .ref (ea E 1)), (1, va_rf (v1))] → wX2_spareTheRest_L15  Q  k v1 sL → W p l e (headSpec wsX2_spareTheRest ({ frames := 0, cells := 0, slots := 0, locals := 0 } : Room)).room s m (List.toArray [.ref (ea E 1)]) below meth c H locs 0 0 (MQ below (Qv E (sz σ) σ Q) (List.toArray [.ref (ea E 1)]) s 0 0 (Av E)) (F0 m 15 ls []) := by
    intro k
    induction k with
    | zero => intro v1 sL H locs ls mv1 hg hm hl h; exact False.elim h
    | succ k ih =>
      intro v1 sL H locs ls mv1 hg hm hl h
      rw [wX2_spareTheRest_L15] at h
      refine q_aload_n hx hb dX2_spareTheRest_15 rfl (lv_at hl 1 rfl) ?_
      refine j_null (tgt := 51) hx hb dX2_spareTheRest_16 (by decide) (fun c2 => ?_) (fun b3 c2 => ?_)
      · have h := h.1 c2
        exact ret_v hx hb hr hlocks hg hm h dX2_spareTheRest_51
      · have h := h.2 b3 c2
        refine q_aload_n hx hb dX2_spareTheRest_19 rfl (lv_at hl 1 rfl) ?_
        refine q_ngeti_o c2 hx hb hts (fun _ h9 => List.mem_cons_of_mem _ (List.mem_append_right _ h9)) hown hK hg (mv1 b3 c2) 8 (by decide) (hts (.fieldLink RX2 65 "JoinMaps$Node" "keptRound" "I") (List.mem_cons_of_mem _ (List.mem_append_left _ (List.mem_append_left _ (List.mem_of_getElem? (i := 3) rfl))))) rfl rfl dX2_spareTheRest_20 ?_
        have hR4 := GS_R hg (b3 + 64) 8
        refine lv_aload_n hx hb dX2_spareTheRest_23 rfl (lv_at hl 0 rfl) ?_
        refine q_geti (ci := 2) (C := RX2) (T := TX2) (N := 4) hx hb hts (fun _ h9 => List.mem_cons_of_mem _ (List.mem_append_left _ (List.mem_append_right _ h9))) hown hK hg 1 (by decide) rfl rfl (by decide) rfl 3 (by decide) (hts (.fieldLink RX2 58 "JoinMaps$Grove" "round" "I") (List.mem_cons_of_mem _ (List.mem_append_left _ (List.mem_append_left _ (List.mem_of_getElem? (i := 4) rfl))))) rfl rfl dX2_spareTheRest_24 ?_
        have hR5 := GS_R hg 1 3
        refine j_eq (tgt := 43) hx hb dX2_spareTheRest_27 (by decide) hR4 hR5 (fun c6 => ?_) (fun c6 => ?_)
        · have h := h.1 c6
          refine q_aload_n hx hb dX2_spareTheRest_43 rfl (lv_at hl 1 rfl) ?_
          refine q_ngetr_o c2 hx hb hts (fun _ h9 => List.mem_cons_of_mem _ (List.mem_append_right _ h9)) hown hK hg (mv1 b3 c2) 6 (by decide) (hts (.fieldLink RX2 21 "JoinMaps$Node" "older" "LJoinMaps$Node;") (List.mem_cons_of_mem _ (List.mem_append_left _ (List.mem_append_left _ (List.mem_of_getElem? (i := 6) rfl))))) rfl rfl dX2_spareTheRest_44 ?_
          have hS7 : ∀ b, (sf sL (b3 + 64) 6) = some b → sS sL b := fun b h0 => GS_F hg h0
          refine q_astore_n (i := 1) (lv' := [(1, va_rf ((sf sL (b3 + 64) 6))), (0, .ref (ea E 1))]) hx hb dX2_spareTheRest_47 rfl hl (by decide) (by simp [List.filter_cons, rf_cat, ct_i, ct_l, ct_x]) (fun ls hl => ?_)
          refine lv_goto (tgt := 15) hx hb dX2_spareTheRest_48 (by decide) ?_
          exact ih ((sf sL (b3 + 64) 6)) (sL) _ _ _ hS7 hg hm (lv_sub hl [1, 0] rfl) h
        · have h := h.2 c6
          refine q_aload_n hx hb dX2_spareTheRest_30 rfl (lv_at hl 1 rfl) ?_
          refine lv_aload_n hx hb dX2_spareTheRest_31 rfl (lv_at hl 0 rfl) ?_
          refine q_getr (ci := 2) (C := RX2) (T := TX2) (N := 4) hx hb hts (fun _ h9 => List.mem_cons_of_mem _ (List.mem_append_left _ (List.mem_append_right _ h9))) hown hK hg 1 (by decide) rfl rfl (by decide) rfl 1 (by decide) (hts (.fieldLink RX2 9 "JoinMaps$Grove" "spare" "LJoinMaps$Node;") (List.mem_cons_of_mem _ (List.mem_append_left _ (List.mem_append_left _ (List.mem_of_getElem? (i := 0) rfl))))) rfl rfl dX2_spareTheRest_32 ?_
          have hS8 : ∀ b, (sf sL 1 1) = some b → sS sL b := fun b h0 => GS_F hg h0
          refine q_nputr_o c2 hx hb hts (fun _ h9 => List.mem_cons_of_mem _ (List.mem_append_right _ h9)) hown hK hg (mv1 b3 c2) 7 (by decide) (hts (.fieldLink RX2 24 "JoinMaps$Node" "nextSpare" "LJoinMaps$Node;") (List.mem_cons_of_mem _ (List.mem_append_left _ (List.mem_append_left _ (List.mem_of_getElem? (i := 5) rfl))))) rfl rfl (by decide +kernel) rfl hS8 dX2_spareTheRest_35 (fun H locs hg => ?_)
          refine lv_aload_n hx hb dX2_spareTheRest_38 rfl (lv_at hl 0 rfl) ?_
          refine q_aload_n hx hb dX2_spareTheRest_39 rfl (lv_at hl 1 rfl) ?_
          refine q_putr (ci := 2) (C := RX2) (T := TX2) (N := 4) hx hb hts (fun _ h9 => List.mem_cons_of_mem _ (List.mem_append_left _ (List.mem_append_right _ h9))) tyX2 tyX2_ok nmX2 hown hK hg 1 (by decide) rfl rfl (by decide) rfl 1 (by decide) (hts (.fieldLink RX2 9 "JoinMaps$Grove" "spare" "LJoinMaps$Node;") (List.mem_cons_of_mem _ (List.mem_append_left _ (List.mem_append_left _ (List.mem_of_getElem? (i := 0) rfl))))) rfl rfl (by decide +kernel) rfl mv1 dX2_spareTheRest_40 (fun H locs hg => ?_)
          refine q_aload_n hx hb dX2_spareTheRest_43 rfl (lv_at hl 1 rfl) ?_
          refine q_ngetr_o c2 hx hb hts (fun _ h9 => List.mem_cons_of_mem _ (List.mem_append_right _ h9)) hown hK hg (mv1 b3 c2) 6 (by decide) (hts (.fieldLink RX2 21 "JoinMaps$Node" "older" "LJoinMaps$Node;") (List.mem_cons_of_mem _ (List.mem_append_left _ (List.mem_append_left _ (List.mem_of_getElem? (i := 6) rfl))))) rfl rfl dX2_spareTheRest_44 ?_
          have hS9 : ∀ b, (sf (uf (uf sL (b3 + 64) 7 ((sf sL 1 1))) 1 1 (v1)) (b3 + 64) 6) = some b → sS (uf (uf sL (b3 + 64) 7 ((sf sL 1 1))) 1 1 (v1)) b := fun b h0 => GS_F hg h0
          refine q_astore_n (i := 1) (lv' := [(1, va_rf ((sf (uf (uf sL (b3 + 64) 7 ((sf sL 1 1))) 1 1 (v1)) (b3 + 64) 6))), (0, .ref (ea E 1))]) hx hb dX2_spareTheRest_47 rfl hl (by decide) (by simp [List.filter_cons, rf_cat, ct_i, ct_l, ct_x]) (fun ls hl => ?_)
          refine lv_goto (tgt := 15) hx hb dX2_spareTheRest_48 (by decide) ?_
          exact ih ((sf (uf (uf sL (b3 + 64) 7 ((sf sL 1 1))) 1 1 (v1)) (b3 + 64) 6)) (uf (uf sL (b3 + 64) 7 ((sf sL 1 1))) 1 1 (v1)) _ _ _ hS9 hg hm (lv_sub hl [1, 0] rfl) h
  refine lv_aload_n hx hb dX2_spareTheRest_0 rfl (lv_at hl 0 rfl) ?_
  refine q_null hx hb dX2_spareTheRest_1 ?_
  refine q_putr (ci := 2) (C := RX2) (T := TX2) (N := 4) hx hb hts (fun _ h9 => List.mem_cons_of_mem _ (List.mem_append_left _ (List.mem_append_right _ h9))) tyX2 tyX2_ok nmX2 hown hK hg 1 (by decide) rfl rfl (by decide) rfl 1 (by decide) (hts (.fieldLink RX2 9 "JoinMaps$Grove" "spare" "LJoinMaps$Node;") (List.mem_cons_of_mem _ (List.mem_append_left _ (List.mem_append_left _ (List.mem_of_getElem? (i := 0) rfl))))) rfl rfl (by decide +kernel) rfl (fun b h0 => by cases h0) dX2_spareTheRest_2 (fun H locs hg => ?_)
  refine lv_aload_n hx hb dX2_spareTheRest_5 rfl (lv_at hl 0 rfl) ?_
  refine lv_iconst (v := iI 0) hx hb dX2_spareTheRest_6 (by decide) ?_
  refine q_puti (ci := 2) (C := RX2) (T := TX2) (N := 4) hx hb hts (fun _ h9 => List.mem_cons_of_mem _ (List.mem_append_left _ (List.mem_append_right _ h9))) tyX2 tyX2_ok nmX2 hown hK hg 1 (by decide) rfl rfl (by decide) rfl 2 (by decide) (hts (.fieldLink RX2 27 "JoinMaps$Grove" "taken" "I") (List.mem_cons_of_mem _ (List.mem_append_left _ (List.mem_append_left _ (List.mem_of_getElem? (i := 1) rfl))))) rfl rfl (by decide +kernel) rfl (by decide) dX2_spareTheRest_7 (fun H locs hg => ?_)
  refine lv_aload_n hx hb dX2_spareTheRest_10 rfl (lv_at hl 0 rfl) ?_
  refine q_getr (ci := 2) (C := RX2) (T := TX2) (N := 4) hx hb hts (fun _ h9 => List.mem_cons_of_mem _ (List.mem_append_left _ (List.mem_append_right _ h9))) hown hK hg 1 (by decide) rfl rfl (by decide) rfl 0 (by decide) (hts (.fieldLink RX2 18 "JoinMaps$Grove" "newest" "LJoinMaps$Node;") (List.mem_cons_of_mem _ (List.mem_append_left _ (List.mem_append_left _ (List.mem_of_getElem? (i := 2) rfl))))) rfl rfl dX2_spareTheRest_11 ?_
  have hS1 : ∀ b, (sf (un (uf σ 1 1 (none)) 1 2 (0)) 1 0) = some b → sS (un (uf σ 1 1 (none)) 1 2 (0)) b := fun b h0 => GS_F hg h0
  refine q_astore_n (i := 1) (lv' := [(1, va_rf ((sf (un (uf σ 1 1 (none)) 1 2 (0)) 1 0))), (0, .ref (ea E 1))]) hx hb dX2_spareTheRest_14 rfl hl (by decide) (by simp [List.filter_cons, rf_cat, ct_i, ct_l, ct_x]) (fun ls hl => ?_)
  obtain ⟨kk, h⟩ := h
  exact J15  kk ((sf (un (uf σ 1 1 (none)) 1 2 (0)) 1 0)) (un (uf σ 1 1 (none)) 1 2 (0)) _ _ _ hS1 hg hm (lv_sub hl [1, 0] rfl) h
theorem hdX2_without : yX2_without.cls ≠ "java/lang/invoke/MethodHandle" ∧ yX2_without.cls ≠ "java/lang/invoke/VarHandle" ∧ (parseMethodDescriptor yX2_without.desc).map (fun d => d.parameters.length) = some 3 := by decide +kernel
set_option maxRecDepth 100000 in
set_option maxHeartbeats 4000000 in
theorem ctX2_without (l : Launch) (E : Ev) (tp : Nat) (a1 : Option Nat) (a2 : Int) (a3 : Int) (σ : SS) (Q : Option Nat → SS → Prop) (ha1 : ∀ b, a1 = some b → sS σ b) (ha2 : R32 a2) (ha3 : R32 a3) (ht : sz σ ≤ tp) (h : wX2_without tp a1 a2 a3 σ Q) : Met l yX2_without wsX2_without ({ frames := 95, cells := tp - sz σ, slots := 9 * (tp - sz σ), locals := 2431 } : Room) (Pc E σ [.ref (ea E 1), va_rf (a1), .int (iI (a2)), .int (iI (a3))]) (Qr E tp σ Q) (tp - sz σ) (9 * (tp - sz σ)) (Av E) := by
  rw [wX2_without] at h
  refine Met.ofW (cc := cX2_without) (maxL := 4) (ret := (some (.object "JoinMaps$Node"))) (by decide) rfl ?_
  intro p e s m args below meth c s₁ B hml hv
  obtain ⟨rfl, hH, hK, hN⟩ := hv
  have hx := B.exec
  have hb := B.bytes
  have hr := B.returns
  have hts := atoms_spec (ws := wsX2_without) B.pre
  have hown : s.vm.findClass RX2 = some m.cls := findClass_of_methodNamed B.named
  have hlocks := B.notSynchronized
  have hg : GS E σ s s.heap [] := ⟨hH, va_S.rf⟩
  have hm : Mo tp σ σ := Mo.rf ht
  have hl := ent (vs := [.ref (ea E 1), va_rf (a1), .int (iI (a2)), .int (iI (a3))]) (n := 4) (cats_x (cats_r (cats_i (cats_i cats_nil)))) (Nat.le_of_ble_eq_true rfl)
  rw [lg_entry_eq]
  generalize (lg_sl ([.ref (ea E 1), va_rf (a1), .int (iI (a2)), .int (iI (a3))]) ++ List.replicate (4 - (lg_sl ([.ref (ea E 1), va_rf (a1), .int (iI (a2)), .int (iI (a3))])).length) Slot.unset).toArray = ls at hl ⊢
  have hl : lv_has ls 4 [(0, .ref (ea E 1)), (1, va_rf (a1)), (2, .int (iI (a2))), (3, .int (iI (a3)))] := hl
  refine W_narrow hg hH (show sz σ ≤ sz σ + (sz σ - sz σ) by omega) (show 9 * (sz σ - sz σ) ≤ 9 * (sz σ - sz σ) from Nat.le_refl _) ?_
  refine lv_aload_n hx hb dX2_without_0 rfl (lv_at hl 0 rfl) ?_
  refine lv_aload_n hx hb dX2_without_1 rfl (lv_at hl 0 rfl) ?_
  refine q_aload_n hx hb dX2_without_2 rfl (lv_at hl 1 rfl) ?_
  refine lv_iload_n hx hb dX2_without_3 rfl (lv_at hl 2 rfl) ?_
  refine lv_iconst (v := iI 0) hx hb dX2_without_4 (by decide) ?_
  refine call_r (run_V (a := ea E 1) (As := [va_rf (a1), .int (iI (a2)), .int (iI (0))]) (rest := [.ref (ea E 1)]) ⟨hx, hb, hml, hown, hts⟩ (ctX2_below l E 44 tp a1 a2 0 σ _ ha1 ha2 (by decide) hm.2.2 h) (cwV 3 hts gX2_without_X2_below rfl rfl rfl ⟨rfl, hdX2_below⟩ ⟨Nat.le_of_ble_eq_true rfl, Nat.le_of_ble_eq_true rfl⟩) hK hN hg (recv_x (ci := 2) (C := RX2) (T := TX2) (N := 4) hg hK (by decide) rfl (by decide) rfl) rfl hl.1 rfl (cat_sum _ (by simp)) dX2_without_5 (show (sz σ - sz σ) + (tp - sz σ) ≤ tp - sz σ ∧ 9 * (sz σ - sz σ) + 9 * (tp - sz σ) ≤ 9 * (tp - sz σ) by have q1 := hm.2.1; have q2 := hm.2.2; omega)) hg (fun r2 s1 H locs hz3 hm2 h hg => ?_)
  have hS4 : ∀ b, a1 = some b → sS s1 b := (fun b h0 => hm2.1 b (ha1 b h0))
  have hm := hm.ta hm2
  refine W_narrow hg hH (show sz s1 ≤ sz σ + (sz s1 - sz σ) by have q1 := hm.2.1; omega) (Nat.le_refl _) ?_
  refine lv_aload_n hx hb dX2_without_8 rfl (lv_at hl 0 rfl) ?_
  refine q_aload_n hx hb dX2_without_9 rfl (lv_at hl 1 rfl) ?_
  refine lv_iload_n hx hb dX2_without_10 rfl (lv_at hl 3 rfl) ?_
  refine lv_iconst (v := iI 0) hx hb dX2_without_11 (by decide) ?_
  refine call_r (run_V (a := ea E 1) (As := [va_rf (a1), .int (iI (a3)), .int (iI (0))]) (rest := [va_rf (r2), .ref (ea E 1)]) ⟨hx, hb, hml, hown, hts⟩ (ctX2_above l E 44 tp a1 a3 0 s1 _ hS4 ha3 (by decide) hm.2.2 h) (cwV 3 hts gX2_without_X2_above rfl rfl rfl ⟨rfl, hdX2_above⟩ ⟨Nat.le_of_ble_eq_true rfl, Nat.le_of_ble_eq_true rfl⟩) hK hN hg (recv_x (ci := 2) (C := RX2) (T := TX2) (N := 4) hg hK (by decide) rfl (by decide) rfl) rfl hl.1 rfl (cat_sum _ (by simp)) dX2_without_12 (show (sz s1 - sz σ) + (tp - sz s1) ≤ tp - sz σ ∧ 9 * (sz s1 - sz σ) + 9 * (tp - sz s1) ≤ 9 * (tp - sz σ) by have q1 := hm.2.1; have q2 := hm.2.2; omega)) hg (fun r6 s5 H locs hz7 hm2 h hg => ?_)
  have hS8 : ∀ b, a1 = some b → sS s5 b := (fun b h0 => hm2.1 b (hS4 b h0))
  have hS9 : ∀ b, r2 = some b → sS s5 b := (fun b h0 => hm2.1 b (hz3 b h0))
  have hm := hm.ta hm2
  refine W_narrow hg hH (show sz s5 ≤ sz σ + (sz s5 - sz σ) by have q1 := hm.2.1; omega) (Nat.le_refl _) ?_
  refine call_r (run_V (a := ea E 1) (As := [va_rf (r2), va_rf (r6)]) (rest := []) ⟨hx, hb, hml, hown, hts⟩ (ctX2_chain l E tp r2 r6 s5 _ hS9 hz7 hm.2.2 h) (cwV 2 hts gX2_without_X2_chain rfl rfl rfl ⟨rfl, hdX2_chain⟩ ⟨Nat.le_of_ble_eq_true rfl, Nat.le_of_ble_eq_true rfl⟩) hK hN hg (recv_x (ci := 2) (C := RX2) (T := TX2) (N := 4) hg hK (by decide) rfl (by decide) rfl) rfl hl.1 rfl (cat_sum _ (by simp)) dX2_without_15 (show (sz s5 - sz σ) + (tp - sz s5) ≤ tp - sz σ ∧ 9 * (sz s5 - sz σ) + 9 * (tp - sz s5) ≤ 9 * (tp - sz σ) by have q1 := hm.2.1; have q2 := hm.2.2; omega)) hg (fun r11 s10 H locs hz12 hm2 h hg => ?_)
  have hS13 : ∀ b, a1 = some b → sS s10 b := (fun b h0 => hm2.1 b (hS8 b h0))
  have hm := hm.ta hm2
  refine W_narrow hg hH (show sz s10 ≤ sz σ + (sz s10 - sz σ) by have q1 := hm.2.1; omega) (Nat.le_refl _) ?_
  refine W.widen (k := tp - sz σ) (n := 9 * (tp - sz σ)) (show sz s10 - sz σ ≤ _ by have q1 := hm.2.2; omega) (show 9 * (sz s10 - sz σ) ≤ _ by have q1 := hm.2.2; omega) ?_
  exact ret_r hx hb hr hlocks hg hz12 hm h dX2_without_18
theorem hdX6_keyAt : yX6_keyAt.cls ≠ "java/lang/invoke/MethodHandle" ∧ yX6_keyAt.cls ≠ "java/lang/invoke/VarHandle" ∧ (parseMethodDescriptor yX6_keyAt.desc).map (fun d => d.parameters.length) = some 1 := by decide +kernel
set_option maxRecDepth 100000 in
set_option maxHeartbeats 4000000 in
theorem ctX6_keyAt (l : Launch) (E : Ev) (x0 : Nat) (a1 : Int) (σ : SS) (Q : Int → SS → Prop) (hx0 : x0 = 15 ∨ x0 = 18) (ha1 : R32 a1) (h : wX6_keyAt x0 a1 σ Q) : Met l yX6_keyAt wsX6_keyAt ({ frames := 1, cells := 0, slots := 0, locals := 22 } : Room) (Pc E σ [.ref (ea E x0), .int (iI (a1))]) (Qi E (sz σ) σ Q) 0 0 (Av E) := by
  rw [wX6_keyAt] at h
  refine Met.ofW (cc := cX6_keyAt) (maxL := 2) (ret := (some .int)) (by decide) rfl ?_
  intro p e s m args below meth c s₁ B hml hv
  obtain ⟨rfl, hH, hK, hN⟩ := hv
  have hx := B.exec
  have hb := B.bytes
  have hr := B.returns
  have hts := atoms_spec (ws := wsX6_keyAt) B.pre
  have hown : s.vm.findClass RX6 = some m.cls := findClass_of_methodNamed B.named
  have hlocks := B.notSynchronized
  have hg : GS E σ s s.heap [] := ⟨hH, va_S.rf⟩
  have hm : Mo (sz σ) σ σ := Mo.rf (Nat.le_refl _)
  obtain ⟨hx0_0, hx0_1, hx0_2, hx0_3, hx0_4, hx0_5, hx0_6, hx0_7, hx0_8, hx0_9, hx0_10⟩ := rowF hx0
  have hl := ent (vs := [.ref (ea E x0), .int (iI (a1))]) (n := 2) (cats_x (cats_i cats_nil)) (Nat.le_of_ble_eq_true rfl)
  rw [lg_entry_eq]
  generalize (lg_sl ([.ref (ea E x0), .int (iI (a1))]) ++ List.replicate (2 - (lg_sl ([.ref (ea E x0), .int (iI (a1))])).length) Slot.unset).toArray = ls at hl ⊢
  have hl : lv_has ls 2 [(0, .ref (ea E x0)), (1, .int (iI (a1)))] := hl
  refine lv_iload_n hx hb dX6_keyAt_0 rfl (lv_at hl 1 rfl) ?_
  refine lv_iconst (v := iI 0) hx hb dX6_keyAt_1 (by decide) ?_
  refine lv_aload_n hx hb dX6_keyAt_2 rfl (lv_at hl 0 rfl) ?_
  refine q_geti (ci := 6) (C := RX6) (T := TX6) (N := 3) hx hb hts (fun _ h9 => List.mem_cons_of_mem _ (List.mem_append_right _ h9)) hown hK hg x0 hx0_0 hx0_1 hx0_2 (by decide) rfl 2 (by decide) (hts (.fieldLink RX6 18 "JoinMaps$Row" "length" "I") (List.mem_cons_of_mem _ (List.mem_append_left _ (List.mem_of_getElem? (i := 0) rfl)))) rfl rfl dX6_keyAt_3 ?_
  have hR1 := GS_R hg x0 2
  refine lv_iconst (v := iI 1) hx hb dX6_keyAt_6 (by decide) ?_
  refine q_isub hx hb dX6_keyAt_7 ?_
  obtain ⟨hR2, h⟩ := h
  refine call_z (run_SN (As := [.int (iI (a1)), .int (iI (0)), .int (iI (((sn σ x0 2) - 1)))]) (rest := []) ⟨hx, hb, hml, hown, hts⟩ (ctX8_isIn l E a1 0 ((sn σ x0 2) - 1) σ _ ha1 (by decide) hR2 h) ⟨va_cnB 3 hts gX6_keyAt_X8_isIn_n45 rfl rfl rfl (hN 5 _ rfl) (hts (.initialized RX8) (List.mem_cons_of_mem _ (List.mem_append_left _ (List.mem_of_getElem? (i := 4) rfl)))) hdX8_isIn ⟨Nat.le_of_ble_eq_true rfl, Nat.le_of_ble_eq_true rfl⟩, (hts (.static yX8_isIn) (List.mem_cons_of_mem _ (List.mem_append_left _ (List.mem_of_getElem? (i := 3) rfl)))), trivial⟩ hK hN hg rfl hl.1 rfl (cat_sum _ (by simp)) dX6_keyAt_8 ⟨Nat.le_refl 0, Nat.le_refl 0⟩) hg (fun r4 s3 H locs hz5 hm2 h hg => ?_)
  have hm := hm.tn hm2
  refine k_eq (tgt := 23) hx hb dX6_keyAt_11 (by decide) (z_R hz5) (fun c6 => ?_) (fun c6 => ?_)
  · have h := h.1 c6
    refine q_ldc (z := (-2000000001)) hx hb hown (hts (.constant RX6 49 (-2000000001)) (List.mem_cons_of_mem _ (List.mem_append_left _ (List.mem_of_getElem? (i := 2) rfl)))) (by decide) dX6_keyAt_23 ?_
    exact ret_i hx hb hr hlocks hg (by decide) hm h dX6_keyAt_25
  · have h := h.2 c6
    refine lv_aload_n hx hb dX6_keyAt_14 rfl (lv_at hl 0 rfl) ?_
    refine q_getx (ci := 6) (C := RX6) (T := TX6) (N := 3) (j := (x0 + 1)) hx hb hts (fun _ h9 => List.mem_cons_of_mem _ (List.mem_append_right _ h9)) hown hK hg x0 hx0_0 hx0_1 hx0_2 (by decide) rfl 0 (by decide) (hts (.fieldLink RX6 9 "JoinMaps$Row" "keys" "[I") (List.mem_cons_of_mem _ (List.mem_append_left _ (List.mem_of_getElem? (i := 1) rfl)))) rfl rfl hx0_9 dX6_keyAt_15 ?_
    refine lv_iload_n hx hb dX6_keyAt_18 rfl (lv_at hl 1 rfl) ?_
    obtain ⟨hP7, hP8, h⟩ := h
    refine q_iald (N := 200) hx hb hK hg (x0 + 1) hx0_3 hx0_4 hx0_5 hP7 hP8 (by decide) dX6_keyAt_19 ?_
    have hR9 := GS_R hg (x0 + 1) (a1 : Int).toNat
    refine lv_goto (tgt := 25) hx hb dX6_keyAt_20 (by decide) ?_
    exact ret_i hx hb hr hlocks hg hR9 hm h dX6_keyAt_25
theorem hdX6_valueAt : yX6_valueAt.cls ≠ "java/lang/invoke/MethodHandle" ∧ yX6_valueAt.cls ≠ "java/lang/invoke/VarHandle" ∧ (parseMethodDescriptor yX6_valueAt.desc).map (fun d => d.parameters.length) = some 1 := by decide +kernel
set_option maxRecDepth 100000 in
set_option maxHeartbeats 4000000 in
theorem ctX6_valueAt (l : Launch) (E : Ev) (x0 : Nat) (a1 : Int) (σ : SS) (Q : Int → SS → Prop) (hx0 : x0 = 15 ∨ x0 = 18) (ha1 : R32 a1) (h : wX6_valueAt x0 a1 σ Q) : Met l yX6_valueAt wsX6_valueAt ({ frames := 1, cells := 0, slots := 0, locals := 22 } : Room) (Pc E σ [.ref (ea E x0), .int (iI (a1))]) (Qi E (sz σ) σ Q) 0 0 (Av E) := by
  rw [wX6_valueAt] at h
  refine Met.ofW (cc := cX6_valueAt) (maxL := 2) (ret := (some .int)) (by decide) rfl ?_
  intro p e s m args below meth c s₁ B hml hv
  obtain ⟨rfl, hH, hK, hN⟩ := hv
  have hx := B.exec
  have hb := B.bytes
  have hr := B.returns
  have hts := atoms_spec (ws := wsX6_valueAt) B.pre
  have hown : s.vm.findClass RX6 = some m.cls := findClass_of_methodNamed B.named
  have hlocks := B.notSynchronized
  have hg : GS E σ s s.heap [] := ⟨hH, va_S.rf⟩
  have hm : Mo (sz σ) σ σ := Mo.rf (Nat.le_refl _)
  obtain ⟨hx0_0, hx0_1, hx0_2, hx0_3, hx0_4, hx0_5, hx0_6, hx0_7, hx0_8, hx0_9, hx0_10⟩ := rowF hx0
  have hl := ent (vs := [.ref (ea E x0), .int (iI (a1))]) (n := 2) (cats_x (cats_i cats_nil)) (Nat.le_of_ble_eq_true rfl)
  rw [lg_entry_eq]
  generalize (lg_sl ([.ref (ea E x0), .int (iI (a1))]) ++ List.replicate (2 - (lg_sl ([.ref (ea E x0), .int (iI (a1))])).length) Slot.unset).toArray = ls at hl ⊢
  have hl : lv_has ls 2 [(0, .ref (ea E x0)), (1, .int (iI (a1)))] := hl
  refine lv_iload_n hx hb dX6_valueAt_0 rfl (lv_at hl 1 rfl) ?_
  refine lv_iconst (v := iI 0) hx hb dX6_valueAt_1 (by decide) ?_
  refine lv_aload_n hx hb dX6_valueAt_2 rfl (lv_at hl 0 rfl) ?_
  refine q_geti (ci := 6) (C := RX6) (T := TX6) (N := 3) hx hb hts (fun _ h9 => List.mem_cons_of_mem _ (List.mem_append_right _ h9)) hown hK hg x0 hx0_0 hx0_1 hx0_2 (by decide) rfl 2 (by decide) (hts (.fieldLink RX6 18 "JoinMaps$Row" "length" "I") (List.mem_cons_of_mem _ (List.mem_append_left _ (List.mem_of_getElem? (i := 0) rfl)))) rfl rfl dX6_valueAt_3 ?_
  have hR1 := GS_R hg x0 2
  refine lv_iconst (v := iI 1) hx hb dX6_valueAt_6 (by decide) ?_
  refine q_isub hx hb dX6_valueAt_7 ?_
  obtain ⟨hR2, h⟩ := h
  refine call_z (run_SN (As := [.int (iI (a1)), .int (iI (0)), .int (iI (((sn σ x0 2) - 1)))]) (rest := []) ⟨hx, hb, hml, hown, hts⟩ (ctX8_isIn l E a1 0 ((sn σ x0 2) - 1) σ _ ha1 (by decide) hR2 h) ⟨va_cnB 3 hts gX6_valueAt_X8_isIn_n45 rfl rfl rfl (hN 5 _ rfl) (hts (.initialized RX8) (List.mem_cons_of_mem _ (List.mem_append_left _ (List.mem_of_getElem? (i := 4) rfl)))) hdX8_isIn ⟨Nat.le_of_ble_eq_true rfl, Nat.le_of_ble_eq_true rfl⟩, (hts (.static yX8_isIn) (List.mem_cons_of_mem _ (List.mem_append_left _ (List.mem_of_getElem? (i := 3) rfl)))), trivial⟩ hK hN hg rfl hl.1 rfl (cat_sum _ (by simp)) dX6_valueAt_8 ⟨Nat.le_refl 0, Nat.le_refl 0⟩) hg (fun r4 s3 H locs hz5 hm2 h hg => ?_)
  have hm := hm.tn hm2
  refine k_eq (tgt := 23) hx hb dX6_valueAt_11 (by decide) (z_R hz5) (fun c6 => ?_) (fun c6 => ?_)
  · have h := h.1 c6
    refine q_ldc (z := (-2000000001)) hx hb hown (hts (.constant RX6 49 (-2000000001)) (List.mem_cons_of_mem _ (List.mem_append_left _ (List.mem_of_getElem? (i := 2) rfl)))) (by decide) dX6_valueAt_23 ?_
    exact ret_i hx hb hr hlocks hg (by decide) hm h dX6_valueAt_25
  · have h := h.2 c6
    refine lv_aload_n hx hb dX6_valueAt_14 rfl (lv_at hl 0 rfl) ?_
    refine q_getx (ci := 6) (C := RX6) (T := TX6) (N := 3) (j := (x0 + 2)) hx hb hts (fun _ h9 => List.mem_cons_of_mem _ (List.mem_append_right _ h9)) hown hK hg x0 hx0_0 hx0_1 hx0_2 (by decide) rfl 1 (by decide) (hts (.fieldLink RX6 15 "JoinMaps$Row" "values" "[I") (List.mem_cons_of_mem _ (List.mem_append_left _ (List.mem_of_getElem? (i := 1) rfl)))) rfl rfl hx0_10 dX6_valueAt_15 ?_
    refine lv_iload_n hx hb dX6_valueAt_18 rfl (lv_at hl 1 rfl) ?_
    obtain ⟨hP7, hP8, h⟩ := h
    refine q_iald (N := 200) hx hb hK hg (x0 + 2) hx0_6 hx0_7 hx0_8 hP7 hP8 (by decide) dX6_valueAt_19 ?_
    have hR9 := GS_R hg (x0 + 2) (a1 : Int).toNat
    refine lv_goto (tgt := 25) hx hb dX6_valueAt_20 (by decide) ?_
    exact ret_i hx hb hr hlocks hg hR9 hm h dX6_valueAt_25
theorem hdX2_built : yX2_built.cls ≠ "java/lang/invoke/MethodHandle" ∧ yX2_built.cls ≠ "java/lang/invoke/VarHandle" ∧ (parseMethodDescriptor yX2_built.desc).map (fun d => d.parameters.length) = some 4 := by decide +kernel
set_option maxRecDepth 100000 in
set_option maxHeartbeats 4000000 in
theorem ctX2_built (l : Launch) (E : Ev) : ∀ (d : Nat) (tp : Nat) (x1 : Nat) (a2 : Int) (a3 : Int) (a4 : Int) (σ : SS) (Q : Option Nat → SS → Prop) (hx1 : x1 = 15 ∨ x1 = 18) (ha2 : R32 a2) (ha3 : R32 a3) (ha4 : R32 a4) (ht : sz σ ≤ tp) (h : wX2_built d tp x1 a2 a3 a4 σ Q), Met l yX2_built wsX2_built ({ frames := 49 + d, cells := tp - sz σ, slots := 9 * (tp - sz σ), locals := 1328 + d * 27 } : Room) (Pc E σ [.ref (ea E 1), .ref (ea E x1), .int (iI (a2)), .int (iI (a3)), .int (iI (a4))]) (Qr E tp σ Q) (tp - sz σ) (9 * (tp - sz σ)) (Av E) := by
  intro d
  induction d with
  | zero => intro tp x1 a2 a3 a4 σ Q hx1 ha2 ha3 ha4 ht h; exact False.elim h
  | succ d ih =>
  intro tp x1 a2 a3 a4 σ Q hx1 ha2 ha3 ha4 ht h
  rw [wX2_built] at h
  refine Met.ofW (cc := cX2_built) (maxL := 8) (ret := (some (.object "JoinMaps$Node"))) (by decide) rfl ?_
  intro p e s m args below meth c s₁ B hml hv
  obtain ⟨rfl, hH, hK, hN⟩ := hv
  have hx := B.exec
  have hb := B.bytes
  have hr := B.returns
  have hts := atoms_spec (ws := wsX2_built) B.pre
  have hown : s.vm.findClass RX2 = some m.cls := findClass_of_methodNamed B.named
  have hlocks := B.notSynchronized
  have hg : GS E σ s s.heap [] := ⟨hH, va_S.rf⟩
  have hm : Mo tp σ σ := Mo.rf ht
  obtain ⟨hx1_0, hx1_1, hx1_2, hx1_3, hx1_4, hx1_5, hx1_6, hx1_7, hx1_8, hx1_9, hx1_10⟩ := rowF hx1
  have hl := ent (vs := [.ref (ea E 1), .ref (ea E x1), .int (iI (a2)), .int (iI (a3)), .int (iI (a4))]) (n := 8) (cats_x (cats_x (cats_i (cats_i (cats_i cats_nil))))) (Nat.le_of_ble_eq_true rfl)
  rw [lg_entry_eq]
  generalize (lg_sl ([.ref (ea E 1), .ref (ea E x1), .int (iI (a2)), .int (iI (a3)), .int (iI (a4))]) ++ List.replicate (8 - (lg_sl ([.ref (ea E 1), .ref (ea E x1), .int (iI (a2)), .int (iI (a3)), .int (iI (a4))])).length) Slot.unset).toArray = ls at hl ⊢
  have hl : lv_has ls 8 [(0, .ref (ea E 1)), (1, .ref (ea E x1)), (2, .int (iI (a2))), (3, .int (iI (a3))), (4, .int (iI (a4)))] := hl
  refine W_narrow hg hH (show sz σ ≤ sz σ + (sz σ - sz σ) by omega) (show 9 * (sz σ - sz σ) ≤ 9 * (sz σ - sz σ) from Nat.le_refl _) ?_
  refine lv_iload_n hx hb dX2_built_0 rfl (lv_at hl 2 rfl) ?_
  refine lv_iload_n hx hb dX2_built_1 rfl (lv_at hl 3 rfl) ?_
  refine j_ge (tgt := 12) hx hb dX2_built_2 (by decide) ha2 ha3 (fun c1 => ?_) (fun c1 => ?_)
  · have h := h.1 c1
    refine q_null hx hb dX2_built_12 ?_
    refine W.widen (k := tp - sz σ) (n := 9 * (tp - sz σ)) (show sz σ - sz σ ≤ _ by have q1 := hm.2.2; omega) (show 9 * (sz σ - sz σ) ≤ _ by have q1 := hm.2.2; omega) ?_
    exact ret_r hx hb hr hlocks hg (fun b h0 => by cases h0) hm h dX2_built_13
  · have h := h.2 c1
    refine lv_iload hx hb dX2_built_5 (lv_at hl 4 rfl) ?_
    refine lv_bipush (v := iI 40) hx hb dX2_built_7 (by decide) ?_
    refine j_le (tgt := 14) hx hb dX2_built_9 (by decide) ha4 (by decide) (fun c2 => ?_) (fun c2 => ?_)
    · have h := h.1 c2
      refine lv_iload_n hx hb dX2_built_14 rfl (lv_at hl 2 rfl) ?_
      refine lv_iload_n hx hb dX2_built_15 rfl (lv_at hl 3 rfl) ?_
      refine q_iadd hx hb dX2_built_16 ?_
      refine lv_iconst (v := iI 2) hx hb dX2_built_17 (by decide) ?_
      obtain ⟨hR3, h⟩ := h
      refine q_idiv hx hb hR3 (by decide) (by decide) dX2_built_18 ?_
      refine lv_istore (i := 5) (lv' := [(5, .int (iI ((Int.tdiv ((a2 + a3)) 2)))), (0, .ref (ea E 1)), (1, .ref (ea E x1)), (2, .int (iI (a2))), (3, .int (iI (a3))), (4, .int (iI (a4)))]) hx hb dX2_built_19 hl (by decide) rfl (fun ls hl => ?_)
      refine lv_aload_n hx hb dX2_built_21 rfl (lv_at hl 1 rfl) ?_
      refine lv_aload_n hx hb dX2_built_22 rfl (lv_at hl 2 rfl) ?_
      refine lv_iload_n hx hb dX2_built_23 rfl (lv_at hl 3 rfl) ?_
      refine lv_iload hx hb dX2_built_24 (lv_at hl 0 rfl) ?_
      refine lv_iload hx hb dX2_built_26 (lv_at hl 5 rfl) ?_
      refine lv_iconst (v := iI 1) hx hb dX2_built_28 (by decide) ?_
      refine q_iadd hx hb dX2_built_29 ?_
      obtain ⟨hR4, hR5, h⟩ := h
      refine call_r (run_V (a := ea E 1) (As := [.ref (ea E x1), .int (iI (a2)), .int (iI ((Int.tdiv ((a2 + a3)) 2))), .int (iI ((a4 + 1)))]) (rest := []) ⟨hx, hb, hml, hown, hts⟩ (ih tp x1 a2 (Int.tdiv ((a2 + a3)) 2) (a4 + 1) σ _ hx1 ha2 hR4 hR5 hm.2.2 h) (cwV 4 hts gX2_built_X2_built rfl rfl rfl ⟨rfl, hdX2_built⟩ ⟨by show 49 + d + 1 ≤ 49 + (d + 1); omega, by show 8 + (8 + 11) + (1328 + d * 27) ≤ 1328 + (d + 1) * 27; omega⟩) hK hN hg (recv_x (ci := 2) (C := RX2) (T := TX2) (N := 4) hg hK (by decide) rfl (by decide) rfl) rfl hl.1 rfl (cat_sum _ (by simp)) dX2_built_30 (show (sz σ - sz σ) + (tp - sz σ) ≤ tp - sz σ ∧ 9 * (sz σ - sz σ) + 9 * (tp - sz σ) ≤ 9 * (tp - sz σ) by have q1 := hm.2.1; have q2 := hm.2.2; omega)) hg (fun r7 s6 H locs hz8 hm2 h hg => ?_)
      have hm := hm.ta hm2
      refine W_narrow hg hH (show sz s6 ≤ sz σ + (sz s6 - sz σ) by have q1 := hm.2.1; omega) (Nat.le_refl _) ?_
      refine q_astore (i := 6) (lv' := [(6, va_rf (r7)), (5, .int (iI ((Int.tdiv ((a2 + a3)) 2)))), (0, .ref (ea E 1)), (1, .ref (ea E x1)), (2, .int (iI (a2))), (3, .int (iI (a3))), (4, .int (iI (a4)))]) hx hb dX2_built_33 hl (by decide) (by simp [List.filter_cons, rf_cat, ct_i, ct_l, ct_x]) (fun ls hl => ?_)
      refine lv_aload_n hx hb dX2_built_35 rfl (lv_at hl 2 rfl) ?_
      refine lv_aload_n hx hb dX2_built_36 rfl (lv_at hl 3 rfl) ?_
      refine lv_iload hx hb dX2_built_37 (lv_at hl 1 rfl) ?_
      refine lv_iconst (v := iI 1) hx hb dX2_built_39 (by decide) ?_
      refine q_iadd hx hb dX2_built_40 ?_
      refine lv_iload_n hx hb dX2_built_41 rfl (lv_at hl 5 rfl) ?_
      refine lv_iload hx hb dX2_built_42 (lv_at hl 6 rfl) ?_
      refine lv_iconst (v := iI 1) hx hb dX2_built_44 (by decide) ?_
      refine q_iadd hx hb dX2_built_45 ?_
      obtain ⟨hR9, h⟩ := h
      refine call_r (run_V (a := ea E 1) (As := [.ref (ea E x1), .int (iI (((Int.tdiv ((a2 + a3)) 2) + 1))), .int (iI (a3)), .int (iI ((a4 + 1)))]) (rest := []) ⟨hx, hb, hml, hown, hts⟩ (ih tp x1 ((Int.tdiv ((a2 + a3)) 2) + 1) a3 (a4 + 1) s6 _ hx1 hR9 ha3 hR5 hm.2.2 h) (cwV 4 hts gX2_built_X2_built rfl rfl rfl ⟨rfl, hdX2_built⟩ ⟨by show 49 + d + 1 ≤ 49 + (d + 1); omega, by show 8 + (8 + 11) + (1328 + d * 27) ≤ 1328 + (d + 1) * 27; omega⟩) hK hN hg (recv_x (ci := 2) (C := RX2) (T := TX2) (N := 4) hg hK (by decide) rfl (by decide) rfl) rfl hl.1 rfl (cat_sum _ (by simp)) dX2_built_46 (show (sz s6 - sz σ) + (tp - sz s6) ≤ tp - sz σ ∧ 9 * (sz s6 - sz σ) + 9 * (tp - sz s6) ≤ 9 * (tp - sz σ) by have q1 := hm.2.1; have q2 := hm.2.2; omega)) hg (fun r11 s10 H locs hz12 hm2 h hg => ?_)
      have hS13 : ∀ b, r7 = some b → sS s10 b := (fun b h0 => hm2.1 b (hz8 b h0))
      have hm := hm.ta hm2
      refine W_narrow hg hH (show sz s10 ≤ sz σ + (sz s10 - sz σ) by have q1 := hm.2.1; omega) (Nat.le_refl _) ?_
      refine q_astore (i := 7) (lv' := [(7, va_rf (r11)), (6, va_rf (r7)), (5, .int (iI ((Int.tdiv ((a2 + a3)) 2)))), (0, .ref (ea E 1)), (1, .ref (ea E x1)), (2, .int (iI (a2))), (3, .int (iI (a3))), (4, .int (iI (a4)))]) hx hb dX2_built_49 hl (by decide) (by simp [List.filter_cons, rf_cat, ct_i, ct_l, ct_x]) (fun ls hl => ?_)
      refine lv_aload_n hx hb dX2_built_51 rfl (lv_at hl 3 rfl) ?_
      refine q_aload hx hb dX2_built_52 (lv_at hl 1 rfl) ?_
      refine lv_aload_n hx hb dX2_built_54 rfl (lv_at hl 4 rfl) ?_
      refine lv_iload hx hb dX2_built_55 (lv_at hl 2 rfl) ?_
      refine call_i (run_V (a := ea E x1) (As := [.int (iI ((Int.tdiv ((a2 + a3)) 2)))]) (rest := [va_rf (r7), .ref (ea E 1)]) ⟨hx, hb, hml, hown, hts⟩ (ctX6_keyAt l E x1 (Int.tdiv ((a2 + a3)) 2) s10 _ hx1 hR4 h) (cwV 1 hts gX2_built_X6_keyAt rfl rfl rfl ⟨rfl, hdX6_keyAt⟩ ⟨by show 1 + 1 ≤ 49 + (d + 1); omega, by show 8 + (2 + 11) + 22 ≤ 1328 + (d + 1) * 27; omega⟩) hK hN hg (recv_x (ci := 6) (C := RX6) (T := TX6) (N := 3) hg hK hx1_0 hx1_1 (by decide) rfl) rfl hl.1 rfl (cat_sum _ (by simp)) dX2_built_57 (show (sz s10 - sz σ) + 0 ≤ tp - sz σ ∧ 9 * (sz s10 - sz σ) + 0 ≤ 9 * (tp - sz σ) by have q1 := hm.2.1; have q2 := hm.2.2; omega)) hg (fun r15 s14 H locs hz16 hm2 h hg => ?_)
      have hS17 : ∀ b, r11 = some b → sS s14 b := (fun b h0 => hm2.1 b (hz12 b h0))
      have hS18 : ∀ b, r7 = some b → sS s14 b := (fun b h0 => hm2.1 b (hS13 b h0))
      have hm := hm.tn hm2
      refine W_narrow hg hH (show sz s14 ≤ sz σ + (sz s14 - sz σ) by have q1 := hm.2.1; omega) (Nat.le_refl _) ?_
      refine lv_aload_n hx hb dX2_built_60 rfl (lv_at hl 4 rfl) ?_
      refine lv_iload hx hb dX2_built_61 (lv_at hl 2 rfl) ?_
      refine call_i (run_V (a := ea E x1) (As := [.int (iI ((Int.tdiv ((a2 + a3)) 2)))]) (rest := [.int (iI (r15)), va_rf (r7), .ref (ea E 1)]) ⟨hx, hb, hml, hown, hts⟩ (ctX6_valueAt l E x1 (Int.tdiv ((a2 + a3)) 2) s14 _ hx1 hR4 h) (cwV 1 hts gX2_built_X6_valueAt rfl rfl rfl ⟨rfl, hdX6_valueAt⟩ ⟨by show 1 + 1 ≤ 49 + (d + 1); omega, by show 8 + (2 + 11) + 22 ≤ 1328 + (d + 1) * 27; omega⟩) hK hN hg (recv_x (ci := 6) (C := RX6) (T := TX6) (N := 3) hg hK hx1_0 hx1_1 (by decide) rfl) rfl hl.1 rfl (cat_sum _ (by simp)) dX2_built_63 (show (sz s14 - sz σ) + 0 ≤ tp - sz σ ∧ 9 * (sz s14 - sz σ) + 0 ≤ 9 * (tp - sz σ) by have q1 := hm.2.1; have q2 := hm.2.2; omega)) hg (fun r20 s19 H locs hz21 hm2 h hg => ?_)
      have hS22 : ∀ b, r11 = some b → sS s19 b := (fun b h0 => hm2.1 b (hS17 b h0))
      have hS23 : ∀ b, r7 = some b → sS s19 b := (fun b h0 => hm2.1 b (hS18 b h0))
      have hm := hm.tn hm2
      refine W_narrow hg hH (show sz s19 ≤ sz σ + (sz s19 - sz σ) by have q1 := hm.2.1; omega) (Nat.le_refl _) ?_
      refine q_aload hx hb dX2_built_66 (lv_at hl 0 rfl) ?_
      refine lv_iconst (v := iI 0) hx hb dX2_built_68 (by decide) ?_
      refine call_r (run_V (a := ea E 1) (As := [va_rf (r7), .int (iI (r15)), .int (iI (r20)), va_rf (r11), .int (iI (0))]) (rest := []) ⟨hx, hb, hml, hown, hts⟩ (ctX2_join l E 44 tp r7 r15 r20 r11 0 s19 _ hS23 hz16 hz21 hS22 (by decide) hm.2.2 h) (cwV 5 hts gX2_built_X2_join rfl rfl rfl ⟨rfl, hdX2_join⟩ ⟨by show 48 + 1 ≤ 49 + (d + 1); omega, by show 8 + (8 + 11) + 1301 ≤ 1328 + (d + 1) * 27; omega⟩) hK hN hg (recv_x (ci := 2) (C := RX2) (T := TX2) (N := 4) hg hK (by decide) rfl (by decide) rfl) rfl hl.1 rfl (cat_sum _ (by simp)) dX2_built_69 (show (sz s19 - sz σ) + (tp - sz s19) ≤ tp - sz σ ∧ 9 * (sz s19 - sz σ) + 9 * (tp - sz s19) ≤ 9 * (tp - sz σ) by have q1 := hm.2.1; have q2 := hm.2.2; omega)) hg (fun r25 s24 H locs hz26 hm2 h hg => ?_)
      have hS27 : ∀ b, r11 = some b → sS s24 b := (fun b h0 => hm2.1 b (hS22 b h0))
      have hS28 : ∀ b, r7 = some b → sS s24 b := (fun b h0 => hm2.1 b (hS23 b h0))
      have hm := hm.ta hm2
      refine W_narrow hg hH (show sz s24 ≤ sz σ + (sz s24 - sz σ) by have q1 := hm.2.1; omega) (Nat.le_refl _) ?_
      refine W.widen (k := tp - sz σ) (n := 9 * (tp - sz σ)) (show sz s24 - sz σ ≤ _ by have q1 := hm.2.2; omega) (show 9 * (sz s24 - sz σ) ≤ _ by have q1 := hm.2.2; omega) ?_
      exact ret_r hx hb hr hlocks hg hz26 hm h dX2_built_72
    · have h := h.2 c2
      refine q_null hx hb dX2_built_12 ?_
      refine W.widen (k := tp - sz σ) (n := 9 * (tp - sz σ)) (show sz σ - sz σ ≤ _ by have q1 := hm.2.2; omega) (show 9 * (sz σ - sz σ) ≤ _ by have q1 := hm.2.2; omega) ?_
      exact ret_r hx hb hr hlocks hg (fun b h0 => by cases h0) hm h dX2_built_13
theorem hdX2_isWell : yX2_isWell.cls ≠ "java/lang/invoke/MethodHandle" ∧ yX2_isWell.cls ≠ "java/lang/invoke/VarHandle" ∧ (parseMethodDescriptor yX2_isWell.desc).map (fun d => d.parameters.length) = some 4 := by decide +kernel
set_option maxRecDepth 100000 in
set_option maxHeartbeats 4000000 in
theorem ctX2_isWell (l : Launch) (E : Ev) : ∀ (d : Nat) (a0 : Option Nat) (a1 : Int) (a2 : Int) (a3 : Int) (σ : SS) (Q : Int → SS → Prop) (ha0 : ∀ b, a0 = some b → sS σ b) (ha1 : R32 a1) (ha2 : R32 a2) (ha3 : R32 a3) (h : wX2_isWell d a0 a1 a2 a3 σ Q), Met l yX2_isWell wsX2_isWell ({ frames := 2 + d, cells := 0, slots := 0, locals := 40 + d * 27 } : Room) (Pc E σ [va_rf (a0), .int (iI (a1)), .int (iI (a2)), .int (iI (a3))]) (Qz E (sz σ) σ Q) 0 0 (Av E) := by
  intro d
  induction d with
  | zero => intro a0 a1 a2 a3 σ Q ha0 ha1 ha2 ha3 h; exact False.elim h
  | succ d ih =>
  intro a0 a1 a2 a3 σ Q ha0 ha1 ha2 ha3 h
  rw [wX2_isWell] at h
  refine Met.ofW (cc := cX2_isWell) (maxL := 8) (ret := (some .boolean)) (by decide) rfl ?_
  intro p e s m args below meth c s₁ B hml hv
  obtain ⟨rfl, hH, hK, hN⟩ := hv
  have hx := B.exec
  have hb := B.bytes
  have hr := B.returns
  have hts := atoms_spec (ws := wsX2_isWell) B.pre
  have hown : s.vm.findClass RX2 = some m.cls := findClass_of_methodNamed B.named
  have hlocks := B.notSynchronized
  have hg : GS E σ s s.heap [] := ⟨hH, va_S.rf⟩
  have hm : Mo (sz σ) σ σ := Mo.rf (Nat.le_refl _)
  have hl := ent (vs := [va_rf (a0), .int (iI (a1)), .int (iI (a2)), .int (iI (a3))]) (n := 8) (cats_r (cats_i (cats_i (cats_i cats_nil)))) (Nat.le_of_ble_eq_true rfl)
  rw [lg_entry_eq]
  generalize (lg_sl ([va_rf (a0), .int (iI (a1)), .int (iI (a2)), .int (iI (a3))]) ++ List.replicate (8 - (lg_sl ([va_rf (a0), .int (iI (a1)), .int (iI (a2)), .int (iI (a3))])).length) Slot.unset).toArray = ls at hl ⊢
  have hl : lv_has ls 8 [(0, va_rf (a0)), (1, .int (iI (a1))), (2, .int (iI (a2))), (3, .int (iI (a3)))] := hl
  have J94 : ∀ (v4 : Int) (v5 : Int) (u0 : Int) (sL : SS) (H : Heap) (locs : List Loc) (ls : Array Slot), GS E sL s H locs → Mo (sz σ) σ sL → lv_has ls 8 [(0, va_rf (a0)), (1, .int (iI (a1))), (2, .int (iI (a2))), (3, .int (iI (a3))), (4, .int (iI (v4))), (5, .int (iI (v5)))] → wX2_isWell_L94 (wX2_isWell d) a0 a1 a2 a3 Q  v4 v5 u0 sL → W p l e (headSpec wsX2_isWell ({ frames := 2 + (d + 1), cells := 0, slots := 0, locals := 40 + (d + 1) * 27 } : Room)).room s m (List.toArray [va_rf (a0), .int (iI (a1)), .int (iI (a2)), .int (iI (a3))]) below meth c H locs 0 0 (MQ below (Qz E (sz σ) σ Q) (List.toArray [va_rf (a0), .int (iI (a1)), .int (iI (a2)), .int (iI (a3))]) s 0 0 (Av E)) (F0 m 94 ls [.int (iI (u0))]) := by
    intro v4 v5 u0 sL H locs ls hg hm hl h
    rw [wX2_isWell_L94] at h
    refine lv_istore (i := 6) (lv' := [(6, .int (iI (u0))), (0, va_rf (a0)), (1, .int (iI (a1))), (2, .int (iI (a2))), (3, .int (iI (a3))), (4, .int (iI (v4))), (5, .int (iI (v5)))]) hx hb dX2_isWell_94 hl (by decide) (by simp [List.filter_cons, rf_cat, ct_i, ct_l, ct_x]) (fun ls hl => ?_)
    refine q_aload_n hx hb dX2_isWell_96 rfl (lv_at hl 1 rfl) ?_
    obtain ⟨b38, c39, h⟩ := h
    refine q_ngetr_o c39 hx hb hts (fun _ h9 => List.mem_cons_of_mem _ (List.mem_append_right _ h9)) hown hK hg ((fun b h0 => hm.1 b (ha0 b h0)) b38 c39) 4 (by decide) (hts (.fieldLink RX2 37 "JoinMaps$Node" "left" "LJoinMaps$Node;") (List.mem_cons_of_mem _ (List.mem_append_left _ (List.mem_append_left _ (List.mem_of_getElem? (i := 1) rfl))))) rfl rfl dX2_isWell_97 ?_
    have hS40 : ∀ b, (sf sL (b38 + 64) 4) = some b → sS sL b := fun b h0 => GS_F hg h0
    refine call_i (run_S (As := [va_rf ((sf sL (b38 + 64) 4))]) (rest := []) ⟨hx, hb, hml, hown, hts⟩ (ctX3_weightOf l E (sf sL (b38 + 64) 4) sL _ hS40 h) (va_cwS 1 hts gX2_isWell_X3_weightOf rfl rfl rfl hdX3_weightOf ⟨by show 1 + 1 ≤ 2 + (d + 1); omega, by show 8 + (1 + 11) + 20 ≤ 40 + (d + 1) * 27; omega⟩) hK hN hg rfl hl.1 rfl (cat_sum _ (by simp)) dX2_isWell_100 ⟨Nat.le_refl 0, Nat.le_refl 0⟩) hg (fun r42 s41 H locs hz43 hm2 h hg => ?_)
    have hS44 : ∀ b, a0 = some b → sS s41 b := (fun b h0 => hm2.1 b ((fun b h0 => hm.1 b (ha0 b h0)) b h0))
    have hm := hm.tn hm2
    refine q_aload_n hx hb dX2_isWell_103 rfl (lv_at hl 1 rfl) ?_
    refine q_ngetr_o c39 hx hb hts (fun _ h9 => List.mem_cons_of_mem _ (List.mem_append_right _ h9)) hown hK hg (hS44 b38 c39) 5 (by decide) (hts (.fieldLink RX2 40 "JoinMaps$Node" "right" "LJoinMaps$Node;") (List.mem_cons_of_mem _ (List.mem_append_left _ (List.mem_append_left _ (List.mem_of_getElem? (i := 2) rfl))))) rfl rfl dX2_isWell_104 ?_
    have hS45 : ∀ b, (sf s41 (b38 + 64) 5) = some b → sS s41 b := fun b h0 => GS_F hg h0
    refine call_i (run_S (As := [va_rf ((sf s41 (b38 + 64) 5))]) (rest := [.int (iI (r42))]) ⟨hx, hb, hml, hown, hts⟩ (ctX3_weightOf l E (sf s41 (b38 + 64) 5) s41 _ hS45 h) (va_cwS 1 hts gX2_isWell_X3_weightOf rfl rfl rfl hdX3_weightOf ⟨by show 1 + 1 ≤ 2 + (d + 1); omega, by show 8 + (1 + 11) + 20 ≤ 40 + (d + 1) * 27; omega⟩) hK hN hg rfl hl.1 rfl (cat_sum _ (by simp)) dX2_isWell_107 ⟨Nat.le_refl 0, Nat.le_refl 0⟩) hg (fun r47 s46 H locs hz48 hm2 h hg => ?_)
    have hS49 : ∀ b, a0 = some b → sS s46 b := (fun b h0 => hm2.1 b (hS44 b h0))
    have hm := hm.tn hm2
    refine call_z (run_S (As := [.int (iI (r42)), .int (iI (r47))]) (rest := []) ⟨hx, hb, hml, hown, hts⟩ (ctX2_isBalanced l E r42 r47 s46 _ hz43 hz48 h) (va_cwS 2 hts gX2_isWell_X2_isBalanced rfl rfl rfl hdX2_isBalanced ⟨by show 0 + 1 ≤ 2 + (d + 1); omega, by show 8 + (2 + 11) + 0 ≤ 40 + (d + 1) * 27; omega⟩) hK hN hg rfl hl.1 rfl (cat_sum _ (by simp)) dX2_isWell_110 ⟨Nat.le_refl 0, Nat.le_refl 0⟩) hg (fun r51 s50 H locs hz52 hm2 h hg => ?_)
    have hS53 : ∀ b, a0 = some b → sS s50 b := (fun b h0 => hm2.1 b (hS49 b h0))
    have hm := hm.tn hm2
    refine lv_istore (i := 7) (lv' := [(7, .int (iI (r51))), (6, .int (iI (u0))), (0, va_rf (a0)), (1, .int (iI (a1))), (2, .int (iI (a2))), (3, .int (iI (a3))), (4, .int (iI (v4))), (5, .int (iI (v5)))]) hx hb dX2_isWell_113 hl (by decide) (by simp [List.filter_cons, rf_cat, ct_i, ct_l, ct_x]) (fun ls hl => ?_)
    refine lv_iload_n hx hb dX2_isWell_115 rfl (lv_at hl 5 rfl) ?_
    refine lv_bipush (v := iI 40) hx hb dX2_isWell_116 (by decide) ?_
    refine j_gt (tgt := 181) hx hb dX2_isWell_118 (by decide) ha3 (by decide) (fun c54 => ?_) (fun c54 => ?_)
    · have h := h.1 c54
      refine lv_iconst (v := iI 0) hx hb dX2_isWell_181 (by decide) ?_
      exact ret_z hx hb hr hlocks hg (by decide) hm h dX2_isWell_182
    · have h := h.2 c54
      refine lv_iload hx hb dX2_isWell_121 (lv_at hl 6 rfl) ?_
      obtain ⟨hR55, h⟩ := h
      refine k_eq (tgt := 181) hx hb dX2_isWell_123 (by decide) hR55 (fun c56 => ?_) (fun c56 => ?_)
      · have h := h.1 c56
        refine lv_iconst (v := iI 0) hx hb dX2_isWell_181 (by decide) ?_
        exact ret_z hx hb hr hlocks hg (by decide) hm h dX2_isWell_182
      · have h := h.2 c56
        refine lv_iload hx hb dX2_isWell_126 (lv_at hl 7 rfl) ?_
        obtain ⟨hR57, h⟩ := h
        refine k_eq (tgt := 181) hx hb dX2_isWell_128 (by decide) hR57 (fun c58 => ?_) (fun c58 => ?_)
        · have h := h.1 c58
          refine lv_iconst (v := iI 0) hx hb dX2_isWell_181 (by decide) ?_
          exact ret_z hx hb hr hlocks hg (by decide) hm h dX2_isWell_182
        · have h := h.2 c58
          refine lv_iload hx hb dX2_isWell_131 (lv_at hl 1 rfl) ?_
          obtain ⟨hR59, h⟩ := h
          refine k_eq (tgt := 181) hx hb dX2_isWell_133 (by decide) hR59 (fun c60 => ?_) (fun c60 => ?_)
          · have h := h.1 c60
            refine lv_iconst (v := iI 0) hx hb dX2_isWell_181 (by decide) ?_
            exact ret_z hx hb hr hlocks hg (by decide) hm h dX2_isWell_182
          · have h := h.2 c60
            refine lv_iload hx hb dX2_isWell_136 (lv_at hl 0 rfl) ?_
            refine k_eq (tgt := 181) hx hb dX2_isWell_138 (by decide) (z_R hz52) (fun c61 => ?_) (fun c61 => ?_)
            · have h := h.1 c61
              refine lv_iconst (v := iI 0) hx hb dX2_isWell_181 (by decide) ?_
              exact ret_z hx hb hr hlocks hg (by decide) hm h dX2_isWell_182
            · have h := h.2 c61
              refine q_aload_n hx hb dX2_isWell_141 rfl (lv_at hl 2 rfl) ?_
              refine q_ngetr_o c39 hx hb hts (fun _ h9 => List.mem_cons_of_mem _ (List.mem_append_right _ h9)) hown hK hg (hS53 b38 c39) 4 (by decide) (hts (.fieldLink RX2 37 "JoinMaps$Node" "left" "LJoinMaps$Node;") (List.mem_cons_of_mem _ (List.mem_append_left _ (List.mem_append_left _ (List.mem_of_getElem? (i := 1) rfl))))) rfl rfl dX2_isWell_142 ?_
              have hS62 : ∀ b, (sf s50 (b38 + 64) 4) = some b → sS s50 b := fun b h0 => GS_F hg h0
              refine lv_iload_n hx hb dX2_isWell_145 rfl (lv_at hl 3 rfl) ?_
              refine q_aload_n hx hb dX2_isWell_146 rfl (lv_at hl 2 rfl) ?_
              refine q_ngeti_o c39 hx hb hts (fun _ h9 => List.mem_cons_of_mem _ (List.mem_append_right _ h9)) hown hK hg (hS53 b38 c39) 0 (by decide) (hts (.fieldLink RX2 31 "JoinMaps$Node" "key" "I") (List.mem_cons_of_mem _ (List.mem_append_left _ (List.mem_append_left _ (List.mem_of_getElem? (i := 5) rfl))))) rfl rfl dX2_isWell_147 ?_
              have hR63 := GS_R hg (b38 + 64) 0
              refine lv_iload_n hx hb dX2_isWell_150 rfl (lv_at hl 5 rfl) ?_
              refine lv_iconst (v := iI 1) hx hb dX2_isWell_151 (by decide) ?_
              refine q_iadd hx hb dX2_isWell_152 ?_
              obtain ⟨hR64, h⟩ := h
              refine call_z (run_S (As := [va_rf ((sf s50 (b38 + 64) 4)), .int (iI (a1)), .int (iI ((sn s50 (b38 + 64) 0))), .int (iI ((a3 + 1)))]) (rest := []) ⟨hx, hb, hml, hown, hts⟩ (ih (sf s50 (b38 + 64) 4) a1 (sn s50 (b38 + 64) 0) (a3 + 1) s50 _ hS62 ha1 hR63 hR64 h) (va_cwS 4 hts gX2_isWell_X2_isWell rfl rfl rfl hdX2_isWell ⟨by show 2 + d + 1 ≤ 2 + (d + 1); omega, by show 8 + (8 + 11) + (40 + d * 27) ≤ 40 + (d + 1) * 27; omega⟩) hK hN hg rfl hl.1 rfl (cat_sum _ (by simp)) dX2_isWell_153 ⟨Nat.le_refl 0, Nat.le_refl 0⟩) hg (fun r66 s65 H locs hz67 hm2 h hg => ?_)
              have hS68 : ∀ b, a0 = some b → sS s65 b := (fun b h0 => hm2.1 b (hS53 b h0))
              have hm := hm.tn hm2
              refine k_eq (tgt := 181) hx hb dX2_isWell_156 (by decide) (z_R hz67) (fun c69 => ?_) (fun c69 => ?_)
              · have h := h.1 c69
                refine lv_iconst (v := iI 0) hx hb dX2_isWell_181 (by decide) ?_
                exact ret_z hx hb hr hlocks hg (by decide) hm h dX2_isWell_182
              · have h := h.2 c69
                refine q_aload_n hx hb dX2_isWell_159 rfl (lv_at hl 2 rfl) ?_
                refine q_ngetr_o c39 hx hb hts (fun _ h9 => List.mem_cons_of_mem _ (List.mem_append_right _ h9)) hown hK hg (hS68 b38 c39) 5 (by decide) (hts (.fieldLink RX2 40 "JoinMaps$Node" "right" "LJoinMaps$Node;") (List.mem_cons_of_mem _ (List.mem_append_left _ (List.mem_append_left _ (List.mem_of_getElem? (i := 2) rfl))))) rfl rfl dX2_isWell_160 ?_
                have hS70 : ∀ b, (sf s65 (b38 + 64) 5) = some b → sS s65 b := fun b h0 => GS_F hg h0
                refine q_aload_n hx hb dX2_isWell_163 rfl (lv_at hl 2 rfl) ?_
                refine q_ngeti_o c39 hx hb hts (fun _ h9 => List.mem_cons_of_mem _ (List.mem_append_right _ h9)) hown hK hg (hS68 b38 c39) 0 (by decide) (hts (.fieldLink RX2 31 "JoinMaps$Node" "key" "I") (List.mem_cons_of_mem _ (List.mem_append_left _ (List.mem_append_left _ (List.mem_of_getElem? (i := 5) rfl))))) rfl rfl dX2_isWell_164 ?_
                have hR71 := GS_R hg (b38 + 64) 0
                refine lv_iload_n hx hb dX2_isWell_167 rfl (lv_at hl 4 rfl) ?_
                refine lv_iload_n hx hb dX2_isWell_168 rfl (lv_at hl 5 rfl) ?_
                refine lv_iconst (v := iI 1) hx hb dX2_isWell_169 (by decide) ?_
                refine q_iadd hx hb dX2_isWell_170 ?_
                refine call_z (run_S (As := [va_rf ((sf s65 (b38 + 64) 5)), .int (iI ((sn s65 (b38 + 64) 0))), .int (iI (a2)), .int (iI ((a3 + 1)))]) (rest := []) ⟨hx, hb, hml, hown, hts⟩ (ih (sf s65 (b38 + 64) 5) (sn s65 (b38 + 64) 0) a2 (a3 + 1) s65 _ hS70 hR71 ha2 hR64 h) (va_cwS 4 hts gX2_isWell_X2_isWell rfl rfl rfl hdX2_isWell ⟨by show 2 + d + 1 ≤ 2 + (d + 1); omega, by show 8 + (8 + 11) + (40 + d * 27) ≤ 40 + (d + 1) * 27; omega⟩) hK hN hg rfl hl.1 rfl (cat_sum _ (by simp)) dX2_isWell_171 ⟨Nat.le_refl 0, Nat.le_refl 0⟩) hg (fun r73 s72 H locs hz74 hm2 h hg => ?_)
                have hS75 : ∀ b, a0 = some b → sS s72 b := (fun b h0 => hm2.1 b (hS68 b h0))
                have hm := hm.tn hm2
                refine k_eq (tgt := 181) hx hb dX2_isWell_174 (by decide) (z_R hz74) (fun c76 => ?_) (fun c76 => ?_)
                · have h := h.1 c76
                  refine lv_iconst (v := iI 0) hx hb dX2_isWell_181 (by decide) ?_
                  exact ret_z hx hb hr hlocks hg (by decide) hm h dX2_isWell_182
                · have h := h.2 c76
                  refine lv_iconst (v := iI 1) hx hb dX2_isWell_177 (by decide) ?_
                  refine lv_goto (tgt := 182) hx hb dX2_isWell_178 (by decide) ?_
                  exact ret_z hx hb hr hlocks hg (by decide) hm h dX2_isWell_182
  have J93 : ∀ (K94 : Int → Int → Int → SS → Prop) (hK94 : ∀ (v4 : Int) (v5 : Int) (u0 : Int) (sL : SS) (H : Heap) (locs : List Loc) (ls : Array Slot), GS E sL s H locs → Mo (sz σ) σ sL → lv_has ls 8 [(0, va_rf (a0)), (1, .int (iI (a1))), (2, .int (iI (a2))), (3, .int (iI (a3))), (4, .int (iI (v4))), (5, .int (iI (v5)))] → K94 v4 v5 u0 sL → W p l e (headSpec wsX2_isWell ({ frames := 2 + (d + 1), cells := 0, slots := 0, locals := 40 + (d + 1) * 27 } : Room)).room s m (List.toArray [va_rf (a0), .int (iI (a1)), .int (iI (a2)), .int (iI (a3))]) below meth c H locs 0 0 (MQ below (Qz E (sz σ) σ Q) (List.toArray [va_rf (a0), .int (iI (a1)), .int (iI (a2)), .int (iI (a3))]) s 0 0 (Av E)) (F0 m 94 ls [.int (iI (u0))])), ∀ (v4 : Int) (v5 : Int) (sL : SS) (H : Heap) (locs : List Loc) (ls : Array Slot), GS E sL s H locs → Mo (sz σ) σ sL → lv_has ls 8 [(0, va_rf (a0)), (1, .int (iI (a1))), (2, .int (iI (a2))), (3, .int (iI (a3))), (4, .int (iI (v4))), (5, .int (iI (v5)))] → wX2_isWell_L93 (wX2_isWell d) a0 a1 a2 a3 Q K94 v4 v5 sL → W p l e (headSpec wsX2_isWell ({ frames := 2 + (d + 1), cells := 0, slots := 0, locals := 40 + (d + 1) * 27 } : Room)).room s m (List.toArray [va_rf (a0), .int (iI (a1)), .int (iI (a2)), .int (iI (a3))]) below meth c H locs 0 0 (MQ below (Qz E (sz σ) σ Q) (List.toArray [va_rf (a0), .int (iI (a1)), .int (iI (a2)), .int (iI (a3))]) s 0 0 (Av E)) (F0 m 93 ls []) := by
    intro K94 hK94 v4 v5 sL H locs ls hg hm hl h
    rw [wX2_isWell_L93] at h
    refine lv_iconst (v := iI 0) hx hb dX2_isWell_93 (by decide) ?_
    exact hK94 (v4) (v5) (0) (sL) _ _ _ hg hm (lv_sub hl [0, 1, 2, 3, 4, 5] rfl) h
  have J71 : ∀ (v4 : Int) (u0 : Int) (sL : SS) (H : Heap) (locs : List Loc) (ls : Array Slot), GS E sL s H locs → Mo (sz σ) σ sL → lv_has ls 8 [(0, va_rf (a0)), (1, .int (iI (a1))), (2, .int (iI (a2))), (3, .int (iI (a3))), (4, .int (iI (v4)))] → wX2_isWell_L71 (wX2_isWell d) a0 a1 a2 a3 Q  v4 u0 sL → W p l e (headSpec wsX2_isWell ({ frames := 2 + (d + 1), cells := 0, slots := 0, locals := 40 + (d + 1) * 27 } : Room)).room s m (List.toArray [va_rf (a0), .int (iI (a1)), .int (iI (a2)), .int (iI (a3))]) below meth c H locs 0 0 (MQ below (Qz E (sz σ) σ Q) (List.toArray [va_rf (a0), .int (iI (a1)), .int (iI (a2)), .int (iI (a3))]) s 0 0 (Av E)) (F0 m 71 ls [.int (iI (u0))]) := by
    intro v4 u0 sL H locs ls hg hm hl h
    rw [wX2_isWell_L71] at h
    refine lv_istore (i := 5) (lv' := [(5, .int (iI (u0))), (0, va_rf (a0)), (1, .int (iI (a1))), (2, .int (iI (a2))), (3, .int (iI (a3))), (4, .int (iI (v4)))]) hx hb dX2_isWell_71 hl (by decide) (by simp [List.filter_cons, rf_cat, ct_i, ct_l, ct_x]) (fun ls hl => ?_)
    refine q_aload_n hx hb dX2_isWell_73 rfl (lv_at hl 1 rfl) ?_
    obtain ⟨b32, c33, h⟩ := h
    refine q_ngeti_o c33 hx hb hts (fun _ h9 => List.mem_cons_of_mem _ (List.mem_append_right _ h9)) hown hK hg ((fun b h0 => hm.1 b (ha0 b h0)) b32 c33) 0 (by decide) (hts (.fieldLink RX2 31 "JoinMaps$Node" "key" "I") (List.mem_cons_of_mem _ (List.mem_append_left _ (List.mem_append_left _ (List.mem_of_getElem? (i := 5) rfl))))) rfl rfl dX2_isWell_74 ?_
    have hR34 := GS_R hg (b32 + 64) 0
    refine lv_iload_n hx hb dX2_isWell_77 rfl (lv_at hl 2 rfl) ?_
    refine j_le (tgt := 93) hx hb dX2_isWell_78 (by decide) hR34 ha1 (fun c35 => ?_) (fun c35 => ?_)
    · have h := h.1 c35
      exact J93 _ (fun v4 v5 u0 sL H locs ls hg hm hl h => J94  v4 v5 u0 sL H locs ls hg hm hl h) (v4) (u0) (sL) _ _ _ hg hm (lv_sub hl [1, 2, 3, 4, 5, 0] rfl) h
    · have h := h.2 c35
      refine q_aload_n hx hb dX2_isWell_81 rfl (lv_at hl 1 rfl) ?_
      refine q_ngeti_o c33 hx hb hts (fun _ h9 => List.mem_cons_of_mem _ (List.mem_append_right _ h9)) hown hK hg ((fun b h0 => hm.1 b (ha0 b h0)) b32 c33) 0 (by decide) (hts (.fieldLink RX2 31 "JoinMaps$Node" "key" "I") (List.mem_cons_of_mem _ (List.mem_append_left _ (List.mem_append_left _ (List.mem_of_getElem? (i := 5) rfl))))) rfl rfl dX2_isWell_82 ?_
      have hR36 := GS_R hg (b32 + 64) 0
      refine lv_iload_n hx hb dX2_isWell_85 rfl (lv_at hl 3 rfl) ?_
      refine j_ge (tgt := 93) hx hb dX2_isWell_86 (by decide) hR36 ha2 (fun c37 => ?_) (fun c37 => ?_)
      · have h := h.1 c37
        exact J93 _ (fun v4 v5 u0 sL H locs ls hg hm hl h => J94  v4 v5 u0 sL H locs ls hg hm hl h) (v4) (u0) (sL) _ _ _ hg hm (lv_sub hl [1, 2, 3, 4, 5, 0] rfl) h
      · have h := h.2 c37
        refine lv_iconst (v := iI 1) hx hb dX2_isWell_89 (by decide) ?_
        refine lv_goto (tgt := 94) hx hb dX2_isWell_90 (by decide) ?_
        exact J94  (v4) (u0) (1) (sL) _ _ _ hg hm (lv_sub hl [1, 2, 3, 4, 5, 0] rfl) h
  have J35 : ∀ (u0 : Int) (sL : SS) (H : Heap) (locs : List Loc) (ls : Array Slot), GS E sL s H locs → Mo (sz σ) σ sL → lv_has ls 8 [(0, va_rf (a0)), (1, .int (iI (a1))), (2, .int (iI (a2))), (3, .int (iI (a3)))] → wX2_isWell_L35 (wX2_isWell d) a0 a1 a2 a3 Q  u0 sL → W p l e (headSpec wsX2_isWell ({ frames := 2 + (d + 1), cells := 0, slots := 0, locals := 40 + (d + 1) * 27 } : Room)).room s m (List.toArray [va_rf (a0), .int (iI (a1)), .int (iI (a2)), .int (iI (a3))]) below meth c H locs 0 0 (MQ below (Qz E (sz σ) σ Q) (List.toArray [va_rf (a0), .int (iI (a1)), .int (iI (a2)), .int (iI (a3))]) s 0 0 (Av E)) (F0 m 35 ls [.int (iI (u0))]) := by
    intro u0 sL H locs ls hg hm hl h
    rw [wX2_isWell_L35] at h
    refine lv_istore (i := 4) (lv' := [(4, .int (iI (u0))), (0, va_rf (a0)), (1, .int (iI (a1))), (2, .int (iI (a2))), (3, .int (iI (a3)))]) hx hb dX2_isWell_35 hl (by decide) (by simp [List.filter_cons, rf_cat, ct_i, ct_l, ct_x]) (fun ls hl => ?_)
    refine q_aload_n hx hb dX2_isWell_37 rfl (lv_at hl 1 rfl) ?_
    obtain ⟨b16, c17, h⟩ := h
    refine q_ngetl_o c17 hx hb hts (fun _ h9 => List.mem_cons_of_mem _ (List.mem_append_right _ h9)) hown hK hg ((fun b h0 => hm.1 b (ha0 b h0)) b16 c17) 3 (by decide) (hts (.fieldLink RX2 54 "JoinMaps$Node" "sum" "J") (List.mem_cons_of_mem _ (List.mem_append_left _ (List.mem_append_left _ (List.mem_of_getElem? (i := 3) rfl))))) rfl rfl dX2_isWell_38 ?_
    have hR18 := R64_of (GS_R hg (b16 + 64) 3)
    refine q_aload_n hx hb dX2_isWell_41 rfl (lv_at hl 1 rfl) ?_
    refine q_ngetr_o c17 hx hb hts (fun _ h9 => List.mem_cons_of_mem _ (List.mem_append_right _ h9)) hown hK hg ((fun b h0 => hm.1 b (ha0 b h0)) b16 c17) 4 (by decide) (hts (.fieldLink RX2 37 "JoinMaps$Node" "left" "LJoinMaps$Node;") (List.mem_cons_of_mem _ (List.mem_append_left _ (List.mem_append_left _ (List.mem_of_getElem? (i := 1) rfl))))) rfl rfl dX2_isWell_42 ?_
    have hS19 : ∀ b, (sf sL (b16 + 64) 4) = some b → sS sL b := fun b h0 => GS_F hg h0
    refine call_l (run_S (As := [va_rf ((sf sL (b16 + 64) 4))]) (rest := [.long (lI ((sn sL (b16 + 64) 3)))]) ⟨hx, hb, hml, hown, hts⟩ (ctX3_sumOf l E (sf sL (b16 + 64) 4) sL _ hS19 h) (va_cwS 1 hts gX2_isWell_X3_sumOf rfl rfl rfl hdX3_sumOf ⟨by show 0 + 1 ≤ 2 + (d + 1); omega, by show 8 + (1 + 11) + 0 ≤ 40 + (d + 1) * 27; omega⟩) hK hN hg rfl hl.1 rfl (cat_sum _ (by simp)) dX2_isWell_45 ⟨Nat.le_refl 0, Nat.le_refl 0⟩) hg (fun r21 s20 H locs hm2 h hg => ?_)
    have hS23 : ∀ b, a0 = some b → sS s20 b := (fun b h0 => hm2.1 b ((fun b h0 => hm.1 b (ha0 b h0)) b h0))
    have hm := hm.tn hm2
    refine q_aload_n hx hb dX2_isWell_48 rfl (lv_at hl 1 rfl) ?_
    refine q_ngeti_o c17 hx hb hts (fun _ h9 => List.mem_cons_of_mem _ (List.mem_append_right _ h9)) hown hK hg (hS23 b16 c17) 1 (by decide) (hts (.fieldLink RX2 34 "JoinMaps$Node" "value" "I") (List.mem_cons_of_mem _ (List.mem_append_left _ (List.mem_append_left _ (List.mem_of_getElem? (i := 4) rfl))))) rfl rfl dX2_isWell_49 ?_
    have hR24 := GS_R hg (b16 + 64) 1
    refine q_i2l hx hb hR24 dX2_isWell_52 ?_
    refine q_ladd hx hb dX2_isWell_53 ?_
    refine q_aload_n hx hb dX2_isWell_54 rfl (lv_at hl 1 rfl) ?_
    refine q_ngetr_o c17 hx hb hts (fun _ h9 => List.mem_cons_of_mem _ (List.mem_append_right _ h9)) hown hK hg (hS23 b16 c17) 5 (by decide) (hts (.fieldLink RX2 40 "JoinMaps$Node" "right" "LJoinMaps$Node;") (List.mem_cons_of_mem _ (List.mem_append_left _ (List.mem_append_left _ (List.mem_of_getElem? (i := 2) rfl))))) rfl rfl dX2_isWell_55 ?_
    have hS25 : ∀ b, (sf s20 (b16 + 64) 5) = some b → sS s20 b := fun b h0 => GS_F hg h0
    refine call_l (run_S (As := [va_rf ((sf s20 (b16 + 64) 5))]) (rest := [.long (lI ((r21 + (sn s20 (b16 + 64) 1)))), .long (lI ((sn sL (b16 + 64) 3)))]) ⟨hx, hb, hml, hown, hts⟩ (ctX3_sumOf l E (sf s20 (b16 + 64) 5) s20 _ hS25 h) (va_cwS 1 hts gX2_isWell_X3_sumOf rfl rfl rfl hdX3_sumOf ⟨by show 0 + 1 ≤ 2 + (d + 1); omega, by show 8 + (1 + 11) + 0 ≤ 40 + (d + 1) * 27; omega⟩) hK hN hg rfl hl.1 rfl (cat_sum _ (by simp)) dX2_isWell_58 ⟨Nat.le_refl 0, Nat.le_refl 0⟩) hg (fun r27 s26 H locs hm2 h hg => ?_)
    have hS29 : ∀ b, a0 = some b → sS s26 b := (fun b h0 => hm2.1 b (hS23 b h0))
    have hm := hm.tn hm2
    refine q_ladd hx hb dX2_isWell_61 ?_
    obtain ⟨hR30, h⟩ := h
    refine l_ne (tgt := 70) hx hb dX2_isWell_62 dX2_isWell_63 (by decide) hR18 hR30 (fun c31 => ?_) (fun c31 => ?_)
    · have h := h.1 c31
      refine lv_iconst (v := iI 0) hx hb dX2_isWell_70 (by decide) ?_
      exact J71  (u0) (0) (s26) _ _ _ hg hm (lv_sub hl [1, 2, 3, 4, 0] rfl) h
    · have h := h.2 c31
      refine lv_iconst (v := iI 1) hx hb dX2_isWell_66 (by decide) ?_
      refine lv_goto (tgt := 71) hx hb dX2_isWell_67 (by decide) ?_
      exact J71  (u0) (1) (s26) _ _ _ hg hm (lv_sub hl [1, 2, 3, 4, 0] rfl) h
  refine q_aload_n hx hb dX2_isWell_0 rfl (lv_at hl 0 rfl) ?_
  refine j_nonnull (tgt := 6) hx hb dX2_isWell_1 (by decide) (fun b2 c1 => ?_) (fun c1 => ?_)
  · have h := h.2 b2 c1
    refine q_aload_n hx hb dX2_isWell_6 rfl (lv_at hl 0 rfl) ?_
    refine q_ngeti_o c1 hx hb hts (fun _ h9 => List.mem_cons_of_mem _ (List.mem_append_right _ h9)) hown hK hg (ha0 b2 c1) 2 (by decide) (hts (.fieldLink RX2 47 "JoinMaps$Node" "count" "I") (List.mem_cons_of_mem _ (List.mem_append_left _ (List.mem_append_left _ (List.mem_of_getElem? (i := 0) rfl))))) rfl rfl dX2_isWell_7 ?_
    have hR3 := GS_R hg (b2 + 64) 2
    refine q_aload_n hx hb dX2_isWell_10 rfl (lv_at hl 0 rfl) ?_
    refine q_ngetr_o c1 hx hb hts (fun _ h9 => List.mem_cons_of_mem _ (List.mem_append_right _ h9)) hown hK hg (ha0 b2 c1) 4 (by decide) (hts (.fieldLink RX2 37 "JoinMaps$Node" "left" "LJoinMaps$Node;") (List.mem_cons_of_mem _ (List.mem_append_left _ (List.mem_append_left _ (List.mem_of_getElem? (i := 1) rfl))))) rfl rfl dX2_isWell_11 ?_
    have hS4 : ∀ b, (sf σ (b2 + 64) 4) = some b → sS σ b := fun b h0 => GS_F hg h0
    refine call_i (run_S (As := [va_rf ((sf σ (b2 + 64) 4))]) (rest := [.int (iI ((sn σ (b2 + 64) 2)))]) ⟨hx, hb, hml, hown, hts⟩ (ctX3_countOf l E (sf σ (b2 + 64) 4) σ _ hS4 h) (va_cwS 1 hts gX2_isWell_X3_countOf rfl rfl rfl hdX3_countOf ⟨by show 0 + 1 ≤ 2 + (d + 1); omega, by show 8 + (1 + 11) + 0 ≤ 40 + (d + 1) * 27; omega⟩) hK hN hg rfl hl.1 rfl (cat_sum _ (by simp)) dX2_isWell_14 ⟨Nat.le_refl 0, Nat.le_refl 0⟩) hg (fun r6 s5 H locs hz7 hm2 h hg => ?_)
    have hS8 : ∀ b, a0 = some b → sS s5 b := (fun b h0 => hm2.1 b (ha0 b h0))
    have hm := hm.tn hm2
    refine lv_iconst (v := iI 1) hx hb dX2_isWell_17 (by decide) ?_
    refine q_iadd hx hb dX2_isWell_18 ?_
    refine q_aload_n hx hb dX2_isWell_19 rfl (lv_at hl 0 rfl) ?_
    refine q_ngetr_o c1 hx hb hts (fun _ h9 => List.mem_cons_of_mem _ (List.mem_append_right _ h9)) hown hK hg (hS8 b2 c1) 5 (by decide) (hts (.fieldLink RX2 40 "JoinMaps$Node" "right" "LJoinMaps$Node;") (List.mem_cons_of_mem _ (List.mem_append_left _ (List.mem_append_left _ (List.mem_of_getElem? (i := 2) rfl))))) rfl rfl dX2_isWell_20 ?_
    have hS9 : ∀ b, (sf s5 (b2 + 64) 5) = some b → sS s5 b := fun b h0 => GS_F hg h0
    refine call_i (run_S (As := [va_rf ((sf s5 (b2 + 64) 5))]) (rest := [.int (iI ((r6 + 1))), .int (iI ((sn σ (b2 + 64) 2)))]) ⟨hx, hb, hml, hown, hts⟩ (ctX3_countOf l E (sf s5 (b2 + 64) 5) s5 _ hS9 h) (va_cwS 1 hts gX2_isWell_X3_countOf rfl rfl rfl hdX3_countOf ⟨by show 0 + 1 ≤ 2 + (d + 1); omega, by show 8 + (1 + 11) + 0 ≤ 40 + (d + 1) * 27; omega⟩) hK hN hg rfl hl.1 rfl (cat_sum _ (by simp)) dX2_isWell_23 ⟨Nat.le_refl 0, Nat.le_refl 0⟩) hg (fun r11 s10 H locs hz12 hm2 h hg => ?_)
    have hS13 : ∀ b, a0 = some b → sS s10 b := (fun b h0 => hm2.1 b (hS8 b h0))
    have hm := hm.tn hm2
    refine q_iadd hx hb dX2_isWell_26 ?_
    obtain ⟨hR14, h⟩ := h
    refine j_ne (tgt := 34) hx hb dX2_isWell_27 (by decide) hR3 hR14 (fun c15 => ?_) (fun c15 => ?_)
    · have h := h.1 c15
      refine lv_iconst (v := iI 0) hx hb dX2_isWell_34 (by decide) ?_
      exact J35  (0) (s10) _ _ _ hg hm (lv_sub hl [0, 1, 2, 3] rfl) h
    · have h := h.2 c15
      refine lv_iconst (v := iI 1) hx hb dX2_isWell_30 (by decide) ?_
      refine lv_goto (tgt := 35) hx hb dX2_isWell_31 (by decide) ?_
      exact J35  (1) (s10) _ _ _ hg hm (lv_sub hl [0, 1, 2, 3] rfl) h
  · have h := h.1 c1
    refine lv_iconst (v := iI 1) hx hb dX2_isWell_4 (by decide) ?_
    exact ret_z hx hb hr hlocks hg (by decide) hm h dX2_isWell_5
