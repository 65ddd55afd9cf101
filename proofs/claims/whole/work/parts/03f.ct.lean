theorem hdX8_share : yX8_share.cls ≠ "java/lang/invoke/MethodHandle" ∧ yX8_share.cls ≠ "java/lang/invoke/VarHandle" ∧ (parseMethodDescriptor yX8_share.desc).map (fun d => d.parameters.length) = some 2 := by decide +kernel
set_option maxRecDepth 100000 in
set_option maxHeartbeats 4000000 in
theorem ctX8_share (l : Launch) (E : Ev) (a1 : Int) (a2 : Int) (σ : SS) (Q : Int → SS → Prop) (ha1 : R32 a1) (ha2 : R32 a2) (h : wX8_share a1 a2 σ Q) : Met l yX8_share wsX8_share ({ frames := 3, cells := 0, slots := 0, locals := 65 } : Room) (Pc E σ [.ref (ea E 0), .int (iI (a1)), .int (iI (a2))]) (Qi E (sz σ) σ Q) 0 0 (Av E) := by
  rw [wX8_share] at h
  refine Met.ofW (cc := cX8_share) (maxL := 3) (ret := (some .int)) (by decide) rfl ?_
  intro p e s m args below meth c s₁ B hml hv
  obtain ⟨rfl, hH, hK, hN⟩ := hv
  have hx := B.exec
  have hb := B.bytes
  have hr := B.returns
  have hts := atoms_spec (ws := wsX8_share) B.pre
  have hown : s.vm.findClass RX8 = some m.cls := findClass_of_methodNamed B.named
  have hlocks := B.notSynchronized
  have hg : GS E σ s s.heap [] := ⟨hH, va_S.rf⟩
  have hm : Mo (sz σ) σ σ := Mo.rf (Nat.le_refl _)
  have hl := ent (vs := [.ref (ea E 0), .int (iI (a1)), .int (iI (a2))]) (n := 3) (cats_x (cats_i (cats_i cats_nil))) (Nat.le_of_ble_eq_true rfl)
  rw [lg_entry_eq]
  generalize (lg_sl ([.ref (ea E 0), .int (iI (a1)), .int (iI (a2))]) ++ List.replicate (3 - (lg_sl ([.ref (ea E 0), .int (iI (a1)), .int (iI (a2))])).length) Slot.unset).toArray = ls at hl ⊢
  have hl : lv_has ls 3 [(0, .ref (ea E 0)), (1, .int (iI (a1))), (2, .int (iI (a2)))] := hl
  refine lv_iload_n hx hb dX8_share_0 rfl (lv_at hl 1 rfl) ?_
  refine call_z (run_S (As := [.int (iI (a1))]) (rest := []) ⟨hx, hb, hml, hown, hts⟩ (ctX8_isMap l E a1 σ _ ha1 h) (va_cwS 1 hts gX8_share_X8_isMap rfl rfl rfl hdX8_isMap ⟨Nat.le_of_ble_eq_true rfl, Nat.le_of_ble_eq_true rfl⟩) hK hN hg rfl hl.1 rfl (cat_sum _ (by simp)) dX8_share_1 ⟨Nat.le_refl 0, Nat.le_refl 0⟩) hg (fun r2 s1 H locs hz3 hm2 h hg => ?_)
  have hm := hm.tn hm2
  refine k_eq (tgt := 14) hx hb dX8_share_4 (by decide) (z_R hz3) (fun c4 => ?_) (fun c4 => ?_)
  · have h := h.1 c4
    refine lv_aload_n hx hb dX8_share_14 rfl (lv_at hl 0 rfl) ?_
    refine call_i (run_V (a := ea E 0) (As := []) (rest := []) ⟨hx, hb, hml, hown, hts⟩ (ctX8_bad l E  s1 _  h) (cwV 0 hts gX8_share_X8_bad rfl rfl rfl ⟨rfl, hdX8_bad⟩ ⟨Nat.le_of_ble_eq_true rfl, Nat.le_of_ble_eq_true rfl⟩) hK hN hg (recv_x (ci := 8) (C := RX8) (T := TX8) (N := 14) hg hK (by decide) rfl (by decide) rfl) rfl hl.1 rfl (cat_sum _ (by simp)) dX8_share_15 ⟨Nat.le_refl 0, Nat.le_refl 0⟩) hg (fun r6 s5 H locs hz7 hm2 h hg => ?_)
    have hm := hm.tn hm2
    exact ret_i hx hb hr hlocks hg hz7 hm h dX8_share_18
  · have h := h.2 c4
    refine lv_iload_n hx hb dX8_share_7 rfl (lv_at hl 2 rfl) ?_
    refine call_z (run_S (As := [.int (iI (a2))]) (rest := []) ⟨hx, hb, hml, hown, hts⟩ (ctX8_isMap l E a2 s1 _ ha2 h) (va_cwS 1 hts gX8_share_X8_isMap rfl rfl rfl hdX8_isMap ⟨Nat.le_of_ble_eq_true rfl, Nat.le_of_ble_eq_true rfl⟩) hK hN hg rfl hl.1 rfl (cat_sum _ (by simp)) dX8_share_8 ⟨Nat.le_refl 0, Nat.le_refl 0⟩) hg (fun r9 s8 H locs hz10 hm2 h hg => ?_)
    have hm := hm.tn hm2
    refine k_ne (tgt := 19) hx hb dX8_share_11 (by decide) (z_R hz10) (fun c11 => ?_) (fun c11 => ?_)
    · have h := h.1 c11
      refine lv_aload_n hx hb dX8_share_19 rfl (lv_at hl 0 rfl) ?_
      refine lv_iload_n hx hb dX8_share_20 rfl (lv_at hl 2 rfl) ?_
      refine lv_aload_n hx hb dX8_share_21 rfl (lv_at hl 0 rfl) ?_
      refine q_getx (ci := 8) (C := RX8) (T := TX8) (N := 14) (j := 3) hx hb hts (fun _ h9 => List.mem_cons_of_mem _ (List.mem_append_left _ (List.mem_append_left _ (List.mem_append_right _ h9)))) hown hK hg 0 (by decide) rfl rfl (by decide) rfl 2 (by decide) (hts (.fieldLink RX8 27 "JoinMaps" "maps" "[LJoinMaps$Node;") (List.mem_cons_of_mem _ (List.mem_append_left _ (List.mem_append_left _ (List.mem_append_left _ (List.mem_append_left _ (List.mem_of_getElem? (i := 0) rfl))))))) rfl rfl rfl dX8_share_22 ?_
      refine lv_iload_n hx hb dX8_share_25 rfl (lv_at hl 1 rfl) ?_
      obtain ⟨hP12, hP13, h⟩ := h
      refine q_aald (N := 6) hx hb hK hg 3 (by decide) rfl rfl hP12 hP13 (by decide) dX8_share_26 ?_
      have hS14 : ∀ b, (sf s8 3 (a1 : Int).toNat) = some b → sS s8 b := fun b h0 => GS_F hg h0
      refine call_i (run_V (a := ea E 0) (As := [.int (iI (a2)), va_rf ((sf s8 3 (a1 : Int).toNat))]) (rest := []) ⟨hx, hb, hml, hown, hts⟩ (ctX8_settle l E a2 (sf s8 3 (a1 : Int).toNat) s8 _ ha2 hS14 h) (cwV 2 hts gX8_share_X8_settle rfl rfl rfl ⟨rfl, hdX8_settle⟩ ⟨Nat.le_of_ble_eq_true rfl, Nat.le_of_ble_eq_true rfl⟩) hK hN hg (recv_x (ci := 8) (C := RX8) (T := TX8) (N := 14) hg hK (by decide) rfl (by decide) rfl) rfl hl.1 rfl (cat_sum _ (by simp)) dX8_share_27 ⟨Nat.le_refl 0, Nat.le_refl 0⟩) hg (fun r16 s15 H locs hz17 hm2 h hg => ?_)
      have hm := hm.tn hm2
      exact ret_i hx hb hr hlocks hg hz17 hm h dX8_share_30
    · have h := h.2 c11
      refine lv_aload_n hx hb dX8_share_14 rfl (lv_at hl 0 rfl) ?_
      refine call_i (run_V (a := ea E 0) (As := []) (rest := []) ⟨hx, hb, hml, hown, hts⟩ (ctX8_bad l E  s8 _  h) (cwV 0 hts gX8_share_X8_bad rfl rfl rfl ⟨rfl, hdX8_bad⟩ ⟨Nat.le_of_ble_eq_true rfl, Nat.le_of_ble_eq_true rfl⟩) hK hN hg (recv_x (ci := 8) (C := RX8) (T := TX8) (N := 14) hg hK (by decide) rfl (by decide) rfl) rfl hl.1 rfl (cat_sum _ (by simp)) dX8_share_15 ⟨Nat.le_refl 0, Nat.le_refl 0⟩) hg (fun r19 s18 H locs hz20 hm2 h hg => ?_)
      have hm := hm.tn hm2
      exact ret_i hx hb hr hlocks hg hz20 hm h dX8_share_18
theorem hdX8_mix : yX8_mix.cls ≠ "java/lang/invoke/MethodHandle" ∧ yX8_mix.cls ≠ "java/lang/invoke/VarHandle" ∧ (parseMethodDescriptor yX8_mix.desc).map (fun d => d.parameters.length) = some 4 := by decide +kernel
set_option maxRecDepth 100000 in
set_option maxHeartbeats 4000000 in
theorem ctX8_mix (l : Launch) (E : Ev) (tp : Nat) (a1 : Int) (a2 : Int) (a3 : Int) (a4 : Int) (σ : SS) (Q : Int → SS → Prop) (ha1 : R32 a1) (ha2 : R32 a2) (ha3 : R32 a3) (ha4 : R32 a4) (ht : sz σ ≤ tp) (h : wX8_mix tp a1 a2 a3 a4 σ Q) : Met l yX8_mix wsX8_mix ({ frames := 140, cells := tp - sz σ, slots := 9 * (tp - sz σ), locals := 3691 } : Room) (Pc E σ [.ref (ea E 0), .int (iI (a1)), .int (iI (a2)), .int (iI (a3)), .int (iI (a4))]) (Qi E tp σ Q) (tp - sz σ) (9 * (tp - sz σ)) (Av E) := by
  rw [wX8_mix] at h
  refine Met.ofW (cc := cX8_mix) (maxL := 6) (ret := (some .int)) (by decide) rfl ?_
  intro p e s m args below meth c s₁ B hml hv
  obtain ⟨rfl, hH, hK, hN⟩ := hv
  have hx := B.exec
  have hb := B.bytes
  have hr := B.returns
  have hts := atoms_spec (ws := wsX8_mix) B.pre
  have hown : s.vm.findClass RX8 = some m.cls := findClass_of_methodNamed B.named
  have hlocks := B.notSynchronized
  have hg : GS E σ s s.heap [] := ⟨hH, va_S.rf⟩
  have hm : Mo tp σ σ := Mo.rf ht
  have hl := ent (vs := [.ref (ea E 0), .int (iI (a1)), .int (iI (a2)), .int (iI (a3)), .int (iI (a4))]) (n := 6) (cats_x (cats_i (cats_i (cats_i (cats_i cats_nil))))) (Nat.le_of_ble_eq_true rfl)
  rw [lg_entry_eq]
  generalize (lg_sl ([.ref (ea E 0), .int (iI (a1)), .int (iI (a2)), .int (iI (a3)), .int (iI (a4))]) ++ List.replicate (6 - (lg_sl ([.ref (ea E 0), .int (iI (a1)), .int (iI (a2)), .int (iI (a3)), .int (iI (a4))])).length) Slot.unset).toArray = ls at hl ⊢
  have hl : lv_has ls 6 [(0, .ref (ea E 0)), (1, .int (iI (a1))), (2, .int (iI (a2))), (3, .int (iI (a3))), (4, .int (iI (a4)))] := hl
  refine W_narrow hg hH (show sz σ ≤ sz σ + (sz σ - sz σ) by omega) (show 9 * (sz σ - sz σ) ≤ 9 * (sz σ - sz σ) from Nat.le_refl _) ?_
  refine lv_iload_n hx hb dX8_mix_0 rfl (lv_at hl 1 rfl) ?_
  refine lv_iconst (v := iI 0) hx hb dX8_mix_1 (by decide) ?_
  refine lv_iconst (v := iI 3) hx hb dX8_mix_2 (by decide) ?_
  refine call_z (run_S (As := [.int (iI (a1)), .int (iI (0)), .int (iI (3))]) (rest := []) ⟨hx, hb, hml, hown, hts⟩ (ctX8_isIn l E a1 0 3 σ _ ha1 (by decide) (by decide) h) (va_cwS 3 hts gX8_mix_X8_isIn rfl rfl rfl hdX8_isIn ⟨Nat.le_of_ble_eq_true rfl, Nat.le_of_ble_eq_true rfl⟩) hK hN hg rfl hl.1 rfl (cat_sum _ (by simp)) dX8_mix_3 (show (sz σ - sz σ) + 0 ≤ tp - sz σ ∧ 9 * (sz σ - sz σ) + 0 ≤ 9 * (tp - sz σ) by have q1 := hm.2.1; have q2 := hm.2.2; omega)) hg (fun r2 s1 H locs hz3 hm2 h hg => ?_)
  have hm := hm.tn hm2
  refine W_narrow hg hH (show sz s1 ≤ sz σ + (sz s1 - sz σ) by have q1 := hm.2.1; omega) (Nat.le_refl _) ?_
  refine k_eq (tgt := 31) hx hb dX8_mix_6 (by decide) (z_R hz3) (fun c4 => ?_) (fun c4 => ?_)
  · have h := h.1 c4
    refine lv_aload_n hx hb dX8_mix_31 rfl (lv_at hl 0 rfl) ?_
    refine call_i (run_V (a := ea E 0) (As := []) (rest := []) ⟨hx, hb, hml, hown, hts⟩ (ctX8_bad l E  s1 _  h) (cwV 0 hts gX8_mix_X8_bad rfl rfl rfl ⟨rfl, hdX8_bad⟩ ⟨Nat.le_of_ble_eq_true rfl, Nat.le_of_ble_eq_true rfl⟩) hK hN hg (recv_x (ci := 8) (C := RX8) (T := TX8) (N := 14) hg hK (by decide) rfl (by decide) rfl) rfl hl.1 rfl (cat_sum _ (by simp)) dX8_mix_32 (show (sz s1 - sz σ) + 0 ≤ tp - sz σ ∧ 9 * (sz s1 - sz σ) + 0 ≤ 9 * (tp - sz σ) by have q1 := hm.2.1; have q2 := hm.2.2; omega)) hg (fun r6 s5 H locs hz7 hm2 h hg => ?_)
    have hm := hm.tn hm2
    refine W_narrow hg hH (show sz s5 ≤ sz σ + (sz s5 - sz σ) by have q1 := hm.2.1; omega) (Nat.le_refl _) ?_
    refine W.widen (k := tp - sz σ) (n := 9 * (tp - sz σ)) (show sz s5 - sz σ ≤ _ by have q1 := hm.2.2; omega) (show 9 * (sz s5 - sz σ) ≤ _ by have q1 := hm.2.2; omega) ?_
    exact ret_i hx hb hr hlocks hg hz7 hm h dX8_mix_35
  · have h := h.2 c4
    refine lv_iload_n hx hb dX8_mix_9 rfl (lv_at hl 2 rfl) ?_
    refine call_z (run_S (As := [.int (iI (a2))]) (rest := []) ⟨hx, hb, hml, hown, hts⟩ (ctX8_isMap l E a2 s1 _ ha2 h) (va_cwS 1 hts gX8_mix_X8_isMap rfl rfl rfl hdX8_isMap ⟨Nat.le_of_ble_eq_true rfl, Nat.le_of_ble_eq_true rfl⟩) hK hN hg rfl hl.1 rfl (cat_sum _ (by simp)) dX8_mix_10 (show (sz s1 - sz σ) + 0 ≤ tp - sz σ ∧ 9 * (sz s1 - sz σ) + 0 ≤ 9 * (tp - sz σ) by have q1 := hm.2.1; have q2 := hm.2.2; omega)) hg (fun r9 s8 H locs hz10 hm2 h hg => ?_)
    have hm := hm.tn hm2
    refine W_narrow hg hH (show sz s8 ≤ sz σ + (sz s8 - sz σ) by have q1 := hm.2.1; omega) (Nat.le_refl _) ?_
    refine k_eq (tgt := 31) hx hb dX8_mix_13 (by decide) (z_R hz10) (fun c11 => ?_) (fun c11 => ?_)
    · have h := h.1 c11
      refine lv_aload_n hx hb dX8_mix_31 rfl (lv_at hl 0 rfl) ?_
      refine call_i (run_V (a := ea E 0) (As := []) (rest := []) ⟨hx, hb, hml, hown, hts⟩ (ctX8_bad l E  s8 _  h) (cwV 0 hts gX8_mix_X8_bad rfl rfl rfl ⟨rfl, hdX8_bad⟩ ⟨Nat.le_of_ble_eq_true rfl, Nat.le_of_ble_eq_true rfl⟩) hK hN hg (recv_x (ci := 8) (C := RX8) (T := TX8) (N := 14) hg hK (by decide) rfl (by decide) rfl) rfl hl.1 rfl (cat_sum _ (by simp)) dX8_mix_32 (show (sz s8 - sz σ) + 0 ≤ tp - sz σ ∧ 9 * (sz s8 - sz σ) + 0 ≤ 9 * (tp - sz σ) by have q1 := hm.2.1; have q2 := hm.2.2; omega)) hg (fun r13 s12 H locs hz14 hm2 h hg => ?_)
      have hm := hm.tn hm2
      refine W_narrow hg hH (show sz s12 ≤ sz σ + (sz s12 - sz σ) by have q1 := hm.2.1; omega) (Nat.le_refl _) ?_
      refine W.widen (k := tp - sz σ) (n := 9 * (tp - sz σ)) (show sz s12 - sz σ ≤ _ by have q1 := hm.2.2; omega) (show 9 * (sz s12 - sz σ) ≤ _ by have q1 := hm.2.2; omega) ?_
      exact ret_i hx hb hr hlocks hg hz14 hm h dX8_mix_35
    · have h := h.2 c11
      refine lv_iload_n hx hb dX8_mix_16 rfl (lv_at hl 3 rfl) ?_
      refine call_z (run_S (As := [.int (iI (a3))]) (rest := []) ⟨hx, hb, hml, hown, hts⟩ (ctX8_isMap l E a3 s8 _ ha3 h) (va_cwS 1 hts gX8_mix_X8_isMap rfl rfl rfl hdX8_isMap ⟨Nat.le_of_ble_eq_true rfl, Nat.le_of_ble_eq_true rfl⟩) hK hN hg rfl hl.1 rfl (cat_sum _ (by simp)) dX8_mix_17 (show (sz s8 - sz σ) + 0 ≤ tp - sz σ ∧ 9 * (sz s8 - sz σ) + 0 ≤ 9 * (tp - sz σ) by have q1 := hm.2.1; have q2 := hm.2.2; omega)) hg (fun r16 s15 H locs hz17 hm2 h hg => ?_)
      have hm := hm.tn hm2
      refine W_narrow hg hH (show sz s15 ≤ sz σ + (sz s15 - sz σ) by have q1 := hm.2.1; omega) (Nat.le_refl _) ?_
      refine k_eq (tgt := 31) hx hb dX8_mix_20 (by decide) (z_R hz17) (fun c18 => ?_) (fun c18 => ?_)
      · have h := h.1 c18
        refine lv_aload_n hx hb dX8_mix_31 rfl (lv_at hl 0 rfl) ?_
        refine call_i (run_V (a := ea E 0) (As := []) (rest := []) ⟨hx, hb, hml, hown, hts⟩ (ctX8_bad l E  s15 _  h) (cwV 0 hts gX8_mix_X8_bad rfl rfl rfl ⟨rfl, hdX8_bad⟩ ⟨Nat.le_of_ble_eq_true rfl, Nat.le_of_ble_eq_true rfl⟩) hK hN hg (recv_x (ci := 8) (C := RX8) (T := TX8) (N := 14) hg hK (by decide) rfl (by decide) rfl) rfl hl.1 rfl (cat_sum _ (by simp)) dX8_mix_32 (show (sz s15 - sz σ) + 0 ≤ tp - sz σ ∧ 9 * (sz s15 - sz σ) + 0 ≤ 9 * (tp - sz σ) by have q1 := hm.2.1; have q2 := hm.2.2; omega)) hg (fun r20 s19 H locs hz21 hm2 h hg => ?_)
        have hm := hm.tn hm2
        refine W_narrow hg hH (show sz s19 ≤ sz σ + (sz s19 - sz σ) by have q1 := hm.2.1; omega) (Nat.le_refl _) ?_
        refine W.widen (k := tp - sz σ) (n := 9 * (tp - sz σ)) (show sz s19 - sz σ ≤ _ by have q1 := hm.2.2; omega) (show 9 * (sz s19 - sz σ) ≤ _ by have q1 := hm.2.2; omega) ?_
        exact ret_i hx hb hr hlocks hg hz21 hm h dX8_mix_35
      · have h := h.2 c18
        refine lv_iload hx hb dX8_mix_23 (lv_at hl 4 rfl) ?_
        refine call_z (run_S (As := [.int (iI (a4))]) (rest := []) ⟨hx, hb, hml, hown, hts⟩ (ctX8_isMap l E a4 s15 _ ha4 h) (va_cwS 1 hts gX8_mix_X8_isMap rfl rfl rfl hdX8_isMap ⟨Nat.le_of_ble_eq_true rfl, Nat.le_of_ble_eq_true rfl⟩) hK hN hg rfl hl.1 rfl (cat_sum _ (by simp)) dX8_mix_25 (show (sz s15 - sz σ) + 0 ≤ tp - sz σ ∧ 9 * (sz s15 - sz σ) + 0 ≤ 9 * (tp - sz σ) by have q1 := hm.2.1; have q2 := hm.2.2; omega)) hg (fun r23 s22 H locs hz24 hm2 h hg => ?_)
        have hm := hm.tn hm2
        refine W_narrow hg hH (show sz s22 ≤ sz σ + (sz s22 - sz σ) by have q1 := hm.2.1; omega) (Nat.le_refl _) ?_
        refine k_ne (tgt := 36) hx hb dX8_mix_28 (by decide) (z_R hz24) (fun c25 => ?_) (fun c25 => ?_)
        · have h := h.1 c25
          refine lv_aload_n hx hb dX8_mix_36 rfl (lv_at hl 0 rfl) ?_
          refine call_v (run_V (a := ea E 0) (As := []) (rest := []) ⟨hx, hb, hml, hown, hts⟩ (ctX8_startChange l E  s22 _  h) (cwV 0 hts gX8_mix_X8_startChange rfl rfl rfl ⟨rfl, hdX8_startChange⟩ ⟨Nat.le_of_ble_eq_true rfl, Nat.le_of_ble_eq_true rfl⟩) hK hN hg (recv_x (ci := 8) (C := RX8) (T := TX8) (N := 14) hg hK (by decide) rfl (by decide) rfl) rfl hl.1 rfl (cat_sum _ (by simp)) dX8_mix_37 (show (sz s22 - sz σ) + 0 ≤ tp - sz σ ∧ 9 * (sz s22 - sz σ) + 0 ≤ 9 * (tp - sz σ) by have q1 := hm.2.1; have q2 := hm.2.2; omega)) hg (fun s26 H locs hm2 h hg => ?_)
          have hm := hm.tn hm2
          refine W_narrow hg hH (show sz s26 ≤ sz σ + (sz s26 - sz σ) by have q1 := hm.2.1; omega) (Nat.le_refl _) ?_
          refine lv_aload_n hx hb dX8_mix_40 rfl (lv_at hl 0 rfl) ?_
          refine q_getx (ci := 8) (C := RX8) (T := TX8) (N := 14) (j := 2) hx hb hts (fun _ h9 => List.mem_cons_of_mem _ (List.mem_append_left _ (List.mem_append_left _ (List.mem_append_left _ (List.mem_append_left _ (List.mem_append_left _ (List.mem_append_right _ h9))))))) hown hK hg 0 (by decide) rfl rfl (by decide) rfl 1 (by decide) (hts (.fieldLink RX8 21 "JoinMaps" "blender" "LJoinMaps$Blender;") (List.mem_cons_of_mem _ (List.mem_append_left _ (List.mem_append_left _ (List.mem_append_left _ (List.mem_append_left _ (List.mem_append_left _ (List.mem_append_left _ (List.mem_append_left _ (List.mem_of_getElem? (i := 0) rfl)))))))))) rfl rfl rfl dX8_mix_41 ?_
          refine lv_iload_n hx hb dX8_mix_44 rfl (lv_at hl 1 rfl) ?_
          refine lv_aload_n hx hb dX8_mix_45 rfl (lv_at hl 0 rfl) ?_
          refine q_getx (ci := 8) (C := RX8) (T := TX8) (N := 14) (j := 3) hx hb hts (fun _ h9 => List.mem_cons_of_mem _ (List.mem_append_left _ (List.mem_append_left _ (List.mem_append_left _ (List.mem_append_left _ (List.mem_append_left _ (List.mem_append_right _ h9))))))) hown hK hg 0 (by decide) rfl rfl (by decide) rfl 2 (by decide) (hts (.fieldLink RX8 27 "JoinMaps" "maps" "[LJoinMaps$Node;") (List.mem_cons_of_mem _ (List.mem_append_left _ (List.mem_append_left _ (List.mem_append_left _ (List.mem_append_left _ (List.mem_append_left _ (List.mem_append_left _ (List.mem_append_left _ (List.mem_of_getElem? (i := 1) rfl)))))))))) rfl rfl rfl dX8_mix_46 ?_
          refine lv_iload_n hx hb dX8_mix_49 rfl (lv_at hl 2 rfl) ?_
          obtain ⟨hP29, hP30, h⟩ := h
          refine q_aald (N := 6) hx hb hK hg 3 (by decide) rfl rfl hP29 hP30 (by decide) dX8_mix_50 ?_
          have hS31 : ∀ b, (sf s26 3 (a2 : Int).toNat) = some b → sS s26 b := fun b h0 => GS_F hg h0
          refine lv_aload_n hx hb dX8_mix_51 rfl (lv_at hl 0 rfl) ?_
          refine q_getx (ci := 8) (C := RX8) (T := TX8) (N := 14) (j := 3) hx hb hts (fun _ h9 => List.mem_cons_of_mem _ (List.mem_append_left _ (List.mem_append_left _ (List.mem_append_left _ (List.mem_append_left _ (List.mem_append_left _ (List.mem_append_right _ h9))))))) hown hK hg 0 (by decide) rfl rfl (by decide) rfl 2 (by decide) (hts (.fieldLink RX8 27 "JoinMaps" "maps" "[LJoinMaps$Node;") (List.mem_cons_of_mem _ (List.mem_append_left _ (List.mem_append_left _ (List.mem_append_left _ (List.mem_append_left _ (List.mem_append_left _ (List.mem_append_left _ (List.mem_append_left _ (List.mem_of_getElem? (i := 1) rfl)))))))))) rfl rfl rfl dX8_mix_52 ?_
          refine lv_iload_n hx hb dX8_mix_55 rfl (lv_at hl 3 rfl) ?_
          obtain ⟨hP32, hP33, h⟩ := h
          refine q_aald (N := 6) hx hb hK hg 3 (by decide) rfl rfl hP32 hP33 (by decide) dX8_mix_56 ?_
          have hS34 : ∀ b, (sf s26 3 (a3 : Int).toNat) = some b → sS s26 b := fun b h0 => GS_F hg h0
          refine lv_iconst (v := iI 0) hx hb dX8_mix_57 (by decide) ?_
          refine call_r (run_V (a := ea E 2) (As := [.int (iI (a1)), va_rf ((sf s26 3 (a2 : Int).toNat)), va_rf ((sf s26 3 (a3 : Int).toNat)), .int (iI (0))]) (rest := []) ⟨hx, hb, hml, hown, hts⟩ (ctX1_blend l E 44 tp a1 (sf s26 3 (a2 : Int).toNat) (sf s26 3 (a3 : Int).toNat) 0 s26 _ ha1 hS31 hS34 (by decide) hm.2.2 h) (cwV 4 hts gX8_mix_X1_blend rfl rfl rfl ⟨rfl, hdX1_blend⟩ ⟨Nat.le_of_ble_eq_true rfl, Nat.le_of_ble_eq_true rfl⟩) hK hN hg (recv_x (ci := 1) (C := RX1) (T := TX1) (N := 2) hg hK (by decide) rfl (by decide) rfl) rfl hl.1 rfl (cat_sum _ (by simp)) dX8_mix_58 (show (sz s26 - sz σ) + (tp - sz s26) ≤ tp - sz σ ∧ 9 * (sz s26 - sz σ) + 9 * (tp - sz s26) ≤ 9 * (tp - sz σ) by have q1 := hm.2.1; have q2 := hm.2.2; omega)) hg (fun r36 s35 H locs hz37 hm2 h hg => ?_)
          have hm := hm.ta hm2
          refine W_narrow hg hH (show sz s35 ≤ sz σ + (sz s35 - sz σ) by have q1 := hm.2.1; omega) (Nat.le_refl _) ?_
          refine q_astore (i := 5) (lv' := [(5, va_rf (r36)), (0, .ref (ea E 0)), (1, .int (iI (a1))), (2, .int (iI (a2))), (3, .int (iI (a3))), (4, .int (iI (a4)))]) hx hb dX8_mix_61 hl (by decide) (by simp [List.filter_cons, rf_cat, ct_i, ct_l, ct_x]) (fun ls hl => ?_)
          refine q_aload hx hb dX8_mix_63 (lv_at hl 0 rfl) ?_
          refine call_i (run_S (As := [va_rf (r36)]) (rest := []) ⟨hx, hb, hml, hown, hts⟩ (ctX3_countOf l E r36 s35 _ hz37 h) (va_cwS 1 hts gX8_mix_X3_countOf rfl rfl rfl hdX3_countOf ⟨Nat.le_of_ble_eq_true rfl, Nat.le_of_ble_eq_true rfl⟩) hK hN hg rfl hl.1 rfl (cat_sum _ (by simp)) dX8_mix_65 (show (sz s35 - sz σ) + 0 ≤ tp - sz σ ∧ 9 * (sz s35 - sz σ) + 0 ≤ 9 * (tp - sz σ) by have q1 := hm.2.1; have q2 := hm.2.2; omega)) hg (fun r39 s38 H locs hz40 hm2 h hg => ?_)
          have hS41 : ∀ b, r36 = some b → sS s38 b := (fun b h0 => hm2.1 b (hz37 b h0))
          have hm := hm.tn hm2
          refine W_narrow hg hH (show sz s38 ≤ sz σ + (sz s38 - sz σ) by have q1 := hm.2.1; omega) (Nat.le_refl _) ?_
          refine lv_sipush (v := iI 200) hx hb dX8_mix_68 (by decide) ?_
          refine j_le (tgt := 81) hx hb dX8_mix_71 (by decide) hz40 (by decide) (fun c42 => ?_) (fun c42 => ?_)
          · have h := h.1 c42
            refine lv_aload_n hx hb dX8_mix_81 rfl (lv_at hl 1 rfl) ?_
            refine lv_iload hx hb dX8_mix_82 (lv_at hl 5 rfl) ?_
            refine q_aload hx hb dX8_mix_84 (lv_at hl 0 rfl) ?_
            refine call_i (run_V (a := ea E 0) (As := [.int (iI (a4)), va_rf (r36)]) (rest := []) ⟨hx, hb, hml, hown, hts⟩ (ctX8_settle l E a4 r36 s38 _ ha4 hS41 h) (cwV 2 hts gX8_mix_X8_settle rfl rfl rfl ⟨rfl, hdX8_settle⟩ ⟨Nat.le_of_ble_eq_true rfl, Nat.le_of_ble_eq_true rfl⟩) hK hN hg (recv_x (ci := 8) (C := RX8) (T := TX8) (N := 14) hg hK (by decide) rfl (by decide) rfl) rfl hl.1 rfl (cat_sum _ (by simp)) dX8_mix_86 (show (sz s38 - sz σ) + 0 ≤ tp - sz σ ∧ 9 * (sz s38 - sz σ) + 0 ≤ 9 * (tp - sz σ) by have q1 := hm.2.1; have q2 := hm.2.2; omega)) hg (fun r44 s43 H locs hz45 hm2 h hg => ?_)
            have hS46 : ∀ b, r36 = some b → sS s43 b := (fun b h0 => hm2.1 b (hS41 b h0))
            have hm := hm.tn hm2
            refine W_narrow hg hH (show sz s43 ≤ sz σ + (sz s43 - sz σ) by have q1 := hm.2.1; omega) (Nat.le_refl _) ?_
            refine W.widen (k := tp - sz σ) (n := 9 * (tp - sz σ)) (show sz s43 - sz σ ≤ _ by have q1 := hm.2.2; omega) (show 9 * (sz s43 - sz σ) ≤ _ by have q1 := hm.2.2; omega) ?_
            exact ret_i hx hb hr hlocks hg hz45 hm h dX8_mix_89
          · have h := h.2 c42
            refine lv_aload_n hx hb dX8_mix_74 rfl (lv_at hl 1 rfl) ?_
            refine call_i (run_V (a := ea E 0) (As := []) (rest := []) ⟨hx, hb, hml, hown, hts⟩ (ctX8_full l E  s38 _  h) (cwV 0 hts gX8_mix_X8_full rfl rfl rfl ⟨rfl, hdX8_full⟩ ⟨Nat.le_of_ble_eq_true rfl, Nat.le_of_ble_eq_true rfl⟩) hK hN hg (recv_x (ci := 8) (C := RX8) (T := TX8) (N := 14) hg hK (by decide) rfl (by decide) rfl) rfl hl.1 rfl (cat_sum _ (by simp)) dX8_mix_75 (show (sz s38 - sz σ) + 0 ≤ tp - sz σ ∧ 9 * (sz s38 - sz σ) + 0 ≤ 9 * (tp - sz σ) by have q1 := hm.2.1; have q2 := hm.2.2; omega)) hg (fun r48 s47 H locs hz49 hm2 h hg => ?_)
            have hS50 : ∀ b, r36 = some b → sS s47 b := (fun b h0 => hm2.1 b (hS41 b h0))
            have hm := hm.tn hm2
            refine W_narrow hg hH (show sz s47 ≤ sz σ + (sz s47 - sz σ) by have q1 := hm.2.1; omega) (Nat.le_refl _) ?_
            refine lv_goto (tgt := 89) hx hb dX8_mix_78 (by decide) ?_
            refine W.widen (k := tp - sz σ) (n := 9 * (tp - sz σ)) (show sz s47 - sz σ ≤ _ by have q1 := hm.2.2; omega) (show 9 * (sz s47 - sz σ) ≤ _ by have q1 := hm.2.2; omega) ?_
            exact ret_i hx hb hr hlocks hg hz49 hm h dX8_mix_89
        · have h := h.2 c25
          refine lv_aload_n hx hb dX8_mix_31 rfl (lv_at hl 0 rfl) ?_
          refine call_i (run_V (a := ea E 0) (As := []) (rest := []) ⟨hx, hb, hml, hown, hts⟩ (ctX8_bad l E  s22 _  h) (cwV 0 hts gX8_mix_X8_bad rfl rfl rfl ⟨rfl, hdX8_bad⟩ ⟨Nat.le_of_ble_eq_true rfl, Nat.le_of_ble_eq_true rfl⟩) hK hN hg (recv_x (ci := 8) (C := RX8) (T := TX8) (N := 14) hg hK (by decide) rfl (by decide) rfl) rfl hl.1 rfl (cat_sum _ (by simp)) dX8_mix_32 (show (sz s22 - sz σ) + 0 ≤ tp - sz σ ∧ 9 * (sz s22 - sz σ) + 0 ≤ 9 * (tp - sz σ) by have q1 := hm.2.1; have q2 := hm.2.2; omega)) hg (fun r52 s51 H locs hz53 hm2 h hg => ?_)
          have hm := hm.tn hm2
          refine W_narrow hg hH (show sz s51 ≤ sz σ + (sz s51 - sz σ) by have q1 := hm.2.1; omega) (Nat.le_refl _) ?_
          refine W.widen (k := tp - sz σ) (n := 9 * (tp - sz σ)) (show sz s51 - sz σ ≤ _ by have q1 := hm.2.2; omega) (show 9 * (sz s51 - sz σ) ≤ _ by have q1 := hm.2.2; omega) ?_
          exact ret_i hx hb hr hlocks hg hz53 hm h dX8_mix_35
theorem hdX8_settleRow : yX8_settleRow.cls ≠ "java/lang/invoke/MethodHandle" ∧ yX8_settleRow.cls ≠ "java/lang/invoke/VarHandle" ∧ (parseMethodDescriptor yX8_settleRow.desc).map (fun d => d.parameters.length) = some 2 := by decide +kernel
set_option maxRecDepth 100000 in
set_option maxHeartbeats 4000000 in
theorem ctX8_settleRow (l : Launch) (E : Ev) (tp : Nat) (a1 : Int) (x2 : Nat) (σ : SS) (Q : Int → SS → Prop) (ha1 : R32 a1) (hx2 : x2 = 15 ∨ x2 = 18) (ht : sz σ ≤ tp) (h : wX8_settleRow tp a1 x2 σ Q) : Met l yX8_settleRow wsX8_settleRow ({ frames := 94, cells := tp - sz σ, slots := 9 * (tp - sz σ), locals := 2543 } : Room) (Pc E σ [.ref (ea E 0), .int (iI (a1)), .ref (ea E x2)]) (Qi E tp σ Q) (tp - sz σ) (9 * (tp - sz σ)) (Av E) := by
  rw [wX8_settleRow] at h
  refine Met.ofW (cc := cX8_settleRow) (maxL := 3) (ret := (some .int)) (by decide) rfl ?_
  intro p e s m args below meth c s₁ B hml hv
  obtain ⟨rfl, hH, hK, hN⟩ := hv
  have hx := B.exec
  have hb := B.bytes
  have hr := B.returns
  have hts := atoms_spec (ws := wsX8_settleRow) B.pre
  have hown : s.vm.findClass RX8 = some m.cls := findClass_of_methodNamed B.named
  have hlocks := B.notSynchronized
  have hg : GS E σ s s.heap [] := ⟨hH, va_S.rf⟩
  have hm : Mo tp σ σ := Mo.rf ht
  obtain ⟨hx2_0, hx2_1, hx2_2, hx2_3, hx2_4, hx2_5, hx2_6, hx2_7, hx2_8, hx2_9, hx2_10⟩ := rowF hx2
  have hl := ent (vs := [.ref (ea E 0), .int (iI (a1)), .ref (ea E x2)]) (n := 3) (cats_x (cats_i (cats_x cats_nil))) (Nat.le_of_ble_eq_true rfl)
  rw [lg_entry_eq]
  generalize (lg_sl ([.ref (ea E 0), .int (iI (a1)), .ref (ea E x2)]) ++ List.replicate (3 - (lg_sl ([.ref (ea E 0), .int (iI (a1)), .ref (ea E x2)])).length) Slot.unset).toArray = ls at hl ⊢
  have hl : lv_has ls 3 [(0, .ref (ea E 0)), (1, .int (iI (a1))), (2, .ref (ea E x2))] := hl
  refine W_narrow hg hH (show sz σ ≤ sz σ + (sz σ - sz σ) by omega) (show 9 * (sz σ - sz σ) ≤ 9 * (sz σ - sz σ) from Nat.le_refl _) ?_
  refine lv_aload_n hx hb dX8_settleRow_0 rfl (lv_at hl 0 rfl) ?_
  refine call_v (run_V (a := ea E 0) (As := []) (rest := []) ⟨hx, hb, hml, hown, hts⟩ (ctX8_startChange l E  σ _  h) (cwV 0 hts gX8_settleRow_X8_startChange rfl rfl rfl ⟨rfl, hdX8_startChange⟩ ⟨Nat.le_of_ble_eq_true rfl, Nat.le_of_ble_eq_true rfl⟩) hK hN hg (recv_x (ci := 8) (C := RX8) (T := TX8) (N := 14) hg hK (by decide) rfl (by decide) rfl) rfl hl.1 rfl (cat_sum _ (by simp)) dX8_settleRow_1 (show (sz σ - sz σ) + 0 ≤ tp - sz σ ∧ 9 * (sz σ - sz σ) + 0 ≤ 9 * (tp - sz σ) by have q1 := hm.2.1; have q2 := hm.2.2; omega)) hg (fun s1 H locs hm2 h hg => ?_)
  have hm := hm.tn hm2
  refine W_narrow hg hH (show sz s1 ≤ sz σ + (sz s1 - sz σ) by have q1 := hm.2.1; omega) (Nat.le_refl _) ?_
  refine lv_aload_n hx hb dX8_settleRow_4 rfl (lv_at hl 0 rfl) ?_
  refine lv_iload_n hx hb dX8_settleRow_5 rfl (lv_at hl 1 rfl) ?_
  refine lv_aload_n hx hb dX8_settleRow_6 rfl (lv_at hl 0 rfl) ?_
  refine q_getx (ci := 8) (C := RX8) (T := TX8) (N := 14) (j := 1) hx hb hts (fun _ h9 => List.mem_cons_of_mem _ (List.mem_append_left _ (List.mem_append_left _ (List.mem_append_left _ (List.mem_append_left _ (List.mem_append_left _ (List.mem_append_right _ h9))))))) hown hK hg 0 (by decide) rfl rfl (by decide) rfl 0 (by decide) (hts (.fieldLink RX8 10 "JoinMaps" "grove" "LJoinMaps$Grove;") (List.mem_cons_of_mem _ (List.mem_append_left _ (List.mem_append_left _ (List.mem_append_left _ (List.mem_append_left _ (List.mem_append_left _ (List.mem_append_left _ (List.mem_append_left _ (List.mem_of_getElem? (i := 0) rfl)))))))))) rfl rfl rfl dX8_settleRow_7 ?_
  refine lv_aload_n hx hb dX8_settleRow_10 rfl (lv_at hl 2 rfl) ?_
  refine lv_iconst (v := iI 0) hx hb dX8_settleRow_11 (by decide) ?_
  refine lv_aload_n hx hb dX8_settleRow_12 rfl (lv_at hl 2 rfl) ?_
  refine q_geti (ci := 6) (C := RX6) (T := TX6) (N := 3) hx hb hts (fun _ h9 => List.mem_cons_of_mem _ (List.mem_append_left _ (List.mem_append_left _ (List.mem_append_left _ (List.mem_append_left _ (List.mem_append_right _ h9)))))) hown hK hg x2 hx2_0 hx2_1 hx2_2 (by decide) rfl 2 (by decide) (hts (.fieldLink RX8 153 "JoinMaps$Row" "length" "I") (List.mem_cons_of_mem _ (List.mem_append_left _ (List.mem_append_left _ (List.mem_append_left _ (List.mem_append_left _ (List.mem_append_left _ (List.mem_append_left _ (List.mem_append_left _ (List.mem_of_getElem? (i := 1) rfl)))))))))) rfl rfl dX8_settleRow_13 ?_
  have hR4 := GS_R hg x2 2
  refine lv_iconst (v := iI 0) hx hb dX8_settleRow_16 (by decide) ?_
  refine call_r (run_V (a := ea E 1) (As := [.ref (ea E x2), .int (iI (0)), .int (iI ((sn s1 x2 2))), .int (iI (0))]) (rest := [.int (iI (a1)), .ref (ea E 0)]) ⟨hx, hb, hml, hown, hts⟩ (ctX2_built l E 44 tp x2 0 (sn s1 x2 2) 0 s1 _ hx2 (by decide) hR4 (by decide) hm.2.2 h) (cwV 4 hts gX8_settleRow_X2_built rfl rfl rfl ⟨rfl, hdX2_built⟩ ⟨Nat.le_of_ble_eq_true rfl, Nat.le_of_ble_eq_true rfl⟩) hK hN hg (recv_x (ci := 2) (C := RX2) (T := TX2) (N := 4) hg hK (by decide) rfl (by decide) rfl) rfl hl.1 rfl (cat_sum _ (by simp)) dX8_settleRow_17 (show (sz s1 - sz σ) + (tp - sz s1) ≤ tp - sz σ ∧ 9 * (sz s1 - sz σ) + 9 * (tp - sz s1) ≤ 9 * (tp - sz σ) by have q1 := hm.2.1; have q2 := hm.2.2; omega)) hg (fun r6 s5 H locs hz7 hm2 h hg => ?_)
  have hm := hm.ta hm2
  refine W_narrow hg hH (show sz s5 ≤ sz σ + (sz s5 - sz σ) by have q1 := hm.2.1; omega) (Nat.le_refl _) ?_
  refine call_i (run_V (a := ea E 0) (As := [.int (iI (a1)), va_rf (r6)]) (rest := []) ⟨hx, hb, hml, hown, hts⟩ (ctX8_settle l E a1 r6 s5 _ ha1 hz7 h) (cwV 2 hts gX8_settleRow_X8_settle rfl rfl rfl ⟨rfl, hdX8_settle⟩ ⟨Nat.le_of_ble_eq_true rfl, Nat.le_of_ble_eq_true rfl⟩) hK hN hg (recv_x (ci := 8) (C := RX8) (T := TX8) (N := 14) hg hK (by decide) rfl (by decide) rfl) rfl hl.1 rfl (cat_sum _ (by simp)) dX8_settleRow_20 (show (sz s5 - sz σ) + 0 ≤ tp - sz σ ∧ 9 * (sz s5 - sz σ) + 0 ≤ 9 * (tp - sz σ) by have q1 := hm.2.1; have q2 := hm.2.2; omega)) hg (fun r9 s8 H locs hz10 hm2 h hg => ?_)
  have hm := hm.tn hm2
  refine W_narrow hg hH (show sz s8 ≤ sz σ + (sz s8 - sz σ) by have q1 := hm.2.1; omega) (Nat.le_refl _) ?_
  refine W.widen (k := tp - sz σ) (n := 9 * (tp - sz σ)) (show sz s8 - sz σ ≤ _ by have q1 := hm.2.2; omega) (show 9 * (sz s8 - sz σ) ≤ _ by have q1 := hm.2.2; omega) ?_
  exact ret_i hx hb hr hlocks hg hz10 hm h dX8_settleRow_23
theorem hdX8_fill : yX8_fill.cls ≠ "java/lang/invoke/MethodHandle" ∧ yX8_fill.cls ≠ "java/lang/invoke/VarHandle" ∧ (parseMethodDescriptor yX8_fill.desc).map (fun d => d.parameters.length) = some 4 := by decide +kernel
set_option maxRecDepth 100000 in
set_option maxHeartbeats 4000000 in
theorem ctX8_fill (l : Launch) (E : Ev) (tp : Nat) (a1 : Int) (a2 : Int) (a3 : Int) (a4 : Int) (σ : SS) (Q : Int → SS → Prop) (ha1 : R32 a1) (ha2 : R32 a2) (ha3 : R32 a3) (ha4 : R32 a4) (ht : sz σ ≤ tp) (h : wX8_fill tp a1 a2 a3 a4 σ Q) : Met l yX8_fill wsX8_fill ({ frames := 95, cells := tp - sz σ, slots := 9 * (tp - sz σ), locals := 2565 } : Room) (Pc E σ [.ref (ea E 0), .int (iI (a1)), .int (iI (a2)), .int (iI (a3)), .int (iI (a4))]) (Qi E tp σ Q) (tp - sz σ) (9 * (tp - sz σ)) (Av E) := by
  rw [wX8_fill] at h
  refine Met.ofW (cc := cX8_fill) (maxL := 7) (ret := (some .int)) (by decide) rfl ?_
  intro p e s m args below meth c s₁ B hml hv
  obtain ⟨rfl, hH, hK, hN⟩ := hv
  have hx := B.exec
  have hb := B.bytes
  have hr := B.returns
  have hts := atoms_spec (ws := wsX8_fill) B.pre
  have hown : s.vm.findClass RX8 = some m.cls := findClass_of_methodNamed B.named
  have hlocks := B.notSynchronized
  have hg : GS E σ s s.heap [] := ⟨hH, va_S.rf⟩
  have hm : Mo tp σ σ := Mo.rf ht
  have hl := ent (vs := [.ref (ea E 0), .int (iI (a1)), .int (iI (a2)), .int (iI (a3)), .int (iI (a4))]) (n := 7) (cats_x (cats_i (cats_i (cats_i (cats_i cats_nil))))) (Nat.le_of_ble_eq_true rfl)
  rw [lg_entry_eq]
  generalize (lg_sl ([.ref (ea E 0), .int (iI (a1)), .int (iI (a2)), .int (iI (a3)), .int (iI (a4))]) ++ List.replicate (7 - (lg_sl ([.ref (ea E 0), .int (iI (a1)), .int (iI (a2)), .int (iI (a3)), .int (iI (a4))])).length) Slot.unset).toArray = ls at hl ⊢
  have hl : lv_has ls 7 [(0, .ref (ea E 0)), (1, .int (iI (a1))), (2, .int (iI (a2))), (3, .int (iI (a3))), (4, .int (iI (a4)))] := hl
  refine W_narrow hg hH (show sz σ ≤ sz σ + (sz σ - sz σ) by omega) (show 9 * (sz σ - sz σ) ≤ 9 * (sz σ - sz σ) from Nat.le_refl _) ?_
  have J74 : ∀ (k : Nat), ∀ (v5 : Int) (sL : SS) (H : Heap) (locs : List Loc) (ls : Array Slot), GS E sL s H locs → Mo tp σ sL → lv_has ls 7 [(0, .ref (ea E 0)), (1, .int (iI (a1))), (2, .int (iI (a2))), (3, .int (iI (a3))), (4, .int (iI (a4))), (5, .int (iI (v5)))] → wX8_fill_L74 tp a1 a2 a3 a4 Q  k v5 sL → W p l e (headSpec wsX8_fill ({ frames := 95, cells := tp - sz σ, slots := 9 * (tp - sz σ), locals := 2565 } : Room)).room s m (List.toArray [.ref (ea E 0), .int (iI (a1)), .int (iI (a2)), .int (iI (a3)), .int (iI (a4))]) below meth c H locs (sz sL - sz σ) (9 * (sz sL - sz σ)) (MQ below (Qi E tp σ Q) (List.toArray [.ref (ea E 0), .int (iI (a1)), .int (iI (a2)), .int (iI (a3)), .int (iI (a4))]) s (tp - sz σ) (9 * (tp - sz σ)) (Av E)) (F0 m 74 ls []) := by
    intro k
    induction k with
    | zero => intro v5 sL H locs ls hg hm hl h; exact False.elim h
    | succ k ih =>
      intro v5 sL H locs ls hg hm hl h
      rw [wX8_fill_L74] at h
      refine lv_iload hx hb dX8_fill_74 (lv_at hl 5 rfl) ?_
      refine lv_iload_n hx hb dX8_fill_76 rfl (lv_at hl 3 rfl) ?_
      obtain ⟨hR41, h⟩ := h
      refine j_ge (tgt := 111) hx hb dX8_fill_77 (by decide) hR41 ha3 (fun c42 => ?_) (fun c42 => ?_)
      · have h := h.1 c42
        refine lv_aload_n hx hb dX8_fill_111 rfl (lv_at hl 0 rfl) ?_
        refine lv_iload_n hx hb dX8_fill_112 rfl (lv_at hl 1 rfl) ?_
        refine lv_aload_n hx hb dX8_fill_113 rfl (lv_at hl 0 rfl) ?_
        refine q_getx (ci := 8) (C := RX8) (T := TX8) (N := 14) (j := 15) hx hb hts (fun _ h9 => List.mem_cons_of_mem _ (List.mem_append_left _ (List.mem_append_left _ (List.mem_append_left _ (List.mem_append_left _ (List.mem_append_left _ (List.mem_append_right _ h9))))))) hown hK hg 0 (by decide) rfl rfl (by decide) rfl 8 (by decide) (hts (.fieldLink RX8 68 "JoinMaps" "first" "LJoinMaps$Row;") (List.mem_cons_of_mem _ (List.mem_append_left _ (List.mem_append_left _ (List.mem_append_left _ (List.mem_append_left _ (List.mem_append_left _ (List.mem_append_left _ (List.mem_append_left _ (List.mem_of_getElem? (i := 0) rfl)))))))))) rfl rfl rfl dX8_fill_114 ?_
        refine call_i (run_V (a := ea E 0) (As := [.int (iI (a1)), .ref (ea E 15)]) (rest := []) ⟨hx, hb, hml, hown, hts⟩ (ctX8_settleRow l E tp a1 15 sL _ ha1 (by decide) hm.2.2 h) (cwV 2 hts gX8_fill_X8_settleRow rfl rfl rfl ⟨rfl, hdX8_settleRow⟩ ⟨Nat.le_of_ble_eq_true rfl, Nat.le_of_ble_eq_true rfl⟩) hK hN hg (recv_x (ci := 8) (C := RX8) (T := TX8) (N := 14) hg hK (by decide) rfl (by decide) rfl) rfl hl.1 rfl (cat_sum _ (by simp)) dX8_fill_117 (show (sz sL - sz σ) + (tp - sz sL) ≤ tp - sz σ ∧ 9 * (sz sL - sz σ) + 9 * (tp - sz sL) ≤ 9 * (tp - sz σ) by have q1 := hm.2.1; have q2 := hm.2.2; omega)) hg (fun r44 s43 H locs hz45 hm2 h hg => ?_)
        have hm := hm.ta hm2
        refine W_narrow hg hH (show sz s43 ≤ sz σ + (sz s43 - sz σ) by have q1 := hm.2.1; omega) (Nat.le_refl _) ?_
        refine W.widen (k := tp - sz σ) (n := 9 * (tp - sz σ)) (show sz s43 - sz σ ≤ _ by have q1 := hm.2.2; omega) (show 9 * (sz s43 - sz σ) ≤ _ by have q1 := hm.2.2; omega) ?_
        exact ret_i hx hb hr hlocks hg hz45 hm h dX8_fill_120
      · have h := h.2 c42
        refine lv_iload_n hx hb dX8_fill_80 rfl (lv_at hl 2 rfl) ?_
        refine lv_iload hx hb dX8_fill_81 (lv_at hl 5 rfl) ?_
        refine lv_iload hx hb dX8_fill_83 (lv_at hl 4 rfl) ?_
        refine q_imul hx hb dX8_fill_85 ?_
        refine q_iadd hx hb dX8_fill_86 ?_
        refine lv_istore (i := 6) (lv' := [(6, .int (iI ((a2 + (v5 * a4))))), (0, .ref (ea E 0)), (1, .int (iI (a1))), (2, .int (iI (a2))), (3, .int (iI (a3))), (4, .int (iI (a4))), (5, .int (iI (v5)))]) hx hb dX8_fill_87 hl (by decide) rfl (fun ls hl => ?_)
        refine lv_aload_n hx hb dX8_fill_89 rfl (lv_at hl 1 rfl) ?_
        refine q_getx (ci := 8) (C := RX8) (T := TX8) (N := 14) (j := 15) hx hb hts (fun _ h9 => List.mem_cons_of_mem _ (List.mem_append_left _ (List.mem_append_left _ (List.mem_append_left _ (List.mem_append_left _ (List.mem_append_left _ (List.mem_append_right _ h9))))))) hown hK hg 0 (by decide) rfl rfl (by decide) rfl 8 (by decide) (hts (.fieldLink RX8 68 "JoinMaps" "first" "LJoinMaps$Row;") (List.mem_cons_of_mem _ (List.mem_append_left _ (List.mem_append_left _ (List.mem_append_left _ (List.mem_append_left _ (List.mem_append_left _ (List.mem_append_left _ (List.mem_append_left _ (List.mem_of_getElem? (i := 0) rfl)))))))))) rfl rfl rfl dX8_fill_90 ?_
        refine lv_iload hx hb dX8_fill_93 (lv_at hl 0 rfl) ?_
        refine lv_iload hx hb dX8_fill_95 (lv_at hl 0 rfl) ?_
        refine lv_iload_n hx hb dX8_fill_97 rfl (lv_at hl 3 rfl) ?_
        refine q_imul hx hb dX8_fill_98 ?_
        obtain ⟨hR46, h⟩ := h
        refine call_i (run_S (As := [.int (iI (((a2 + (v5 * a4)) * a2)))]) (rest := [.int (iI ((a2 + (v5 * a4)))), .ref (ea E 15)]) ⟨hx, hb, hml, hown, hts⟩ (ctX8_held l E ((a2 + (v5 * a4)) * a2) sL _ hR46 h) (va_cwS 1 hts gX8_fill_X8_held rfl rfl rfl hdX8_held ⟨Nat.le_of_ble_eq_true rfl, Nat.le_of_ble_eq_true rfl⟩) hK hN hg rfl hl.1 rfl (cat_sum _ (by simp)) dX8_fill_99 (show (sz sL - sz σ) + 0 ≤ tp - sz σ ∧ 9 * (sz sL - sz σ) + 0 ≤ 9 * (tp - sz σ) by have q1 := hm.2.1; have q2 := hm.2.2; omega)) hg (fun r48 s47 H locs hz49 hm2 h hg => ?_)
        have hm := hm.tn hm2
        refine W_narrow hg hH (show sz s47 ≤ sz σ + (sz s47 - sz σ) by have q1 := hm.2.1; omega) (Nat.le_refl _) ?_
        obtain ⟨hR50, h⟩ := h
        refine call_v (run_V (a := ea E 15) (As := [.int (iI ((a2 + (v5 * a4)))), .int (iI (r48))]) (rest := []) ⟨hx, hb, hml, hown, hts⟩ (ctX6_add l E 15 (a2 + (v5 * a4)) r48 s47 _ (by decide) hR50 hz49 h) (cwV 2 hts gX8_fill_X6_add rfl rfl rfl ⟨rfl, hdX6_add⟩ ⟨Nat.le_of_ble_eq_true rfl, Nat.le_of_ble_eq_true rfl⟩) hK hN hg (recv_x (ci := 6) (C := RX6) (T := TX6) (N := 3) hg hK (by decide) rfl (by decide) rfl) rfl hl.1 rfl (cat_sum _ (by simp)) dX8_fill_102 (show (sz s47 - sz σ) + 0 ≤ tp - sz σ ∧ 9 * (sz s47 - sz σ) + 0 ≤ 9 * (tp - sz σ) by have q1 := hm.2.1; have q2 := hm.2.2; omega)) hg (fun s51 H locs hm2 h hg => ?_)
        have hm := hm.tn hm2
        refine W_narrow hg hH (show sz s51 ≤ sz σ + (sz s51 - sz σ) by have q1 := hm.2.1; omega) (Nat.le_refl _) ?_
        refine lv_iinc (v := iI (v5 + 1)) (lv' := [(5, .int (iI (v5 + 1))), (6, .int (iI ((a2 + (v5 * a4))))), (0, .ref (ea E 0)), (1, .int (iI (a1))), (2, .int (iI (a2))), (3, .int (iI (a3))), (4, .int (iI (a4)))]) hx hb dX8_fill_105 hl (k := 6) rfl (iI_add _ _) (by decide) rfl (fun ls hl => ?_)
        refine lv_goto (tgt := 74) hx hb dX8_fill_108 (by decide) ?_
        exact ih (v5 + 1) (s51) _ _ _ hg hm (lv_sub hl [2, 3, 4, 5, 6, 0] rfl) h
  refine lv_iload_n hx hb dX8_fill_0 rfl (lv_at hl 1 rfl) ?_
  refine call_z (run_S (As := [.int (iI (a1))]) (rest := []) ⟨hx, hb, hml, hown, hts⟩ (ctX8_isMap l E a1 σ _ ha1 h) (va_cwS 1 hts gX8_fill_X8_isMap rfl rfl rfl hdX8_isMap ⟨Nat.le_of_ble_eq_true rfl, Nat.le_of_ble_eq_true rfl⟩) hK hN hg rfl hl.1 rfl (cat_sum _ (by simp)) dX8_fill_1 (show (sz σ - sz σ) + 0 ≤ tp - sz σ ∧ 9 * (sz σ - sz σ) + 0 ≤ 9 * (tp - sz σ) by have q1 := hm.2.1; have q2 := hm.2.2; omega)) hg (fun r2 s1 H locs hz3 hm2 h hg => ?_)
  have hm := hm.tn hm2
  refine W_narrow hg hH (show sz s1 ≤ sz σ + (sz s1 - sz σ) by have q1 := hm.2.1; omega) (Nat.le_refl _) ?_
  refine k_eq (tgt := 36) hx hb dX8_fill_4 (by decide) (z_R hz3) (fun c4 => ?_) (fun c4 => ?_)
  · have h := h.1 c4
    refine lv_aload_n hx hb dX8_fill_36 rfl (lv_at hl 0 rfl) ?_
    refine call_i (run_V (a := ea E 0) (As := []) (rest := []) ⟨hx, hb, hml, hown, hts⟩ (ctX8_bad l E  s1 _  h) (cwV 0 hts gX8_fill_X8_bad rfl rfl rfl ⟨rfl, hdX8_bad⟩ ⟨Nat.le_of_ble_eq_true rfl, Nat.le_of_ble_eq_true rfl⟩) hK hN hg (recv_x (ci := 8) (C := RX8) (T := TX8) (N := 14) hg hK (by decide) rfl (by decide) rfl) rfl hl.1 rfl (cat_sum _ (by simp)) dX8_fill_37 (show (sz s1 - sz σ) + 0 ≤ tp - sz σ ∧ 9 * (sz s1 - sz σ) + 0 ≤ 9 * (tp - sz σ) by have q1 := hm.2.1; have q2 := hm.2.2; omega)) hg (fun r6 s5 H locs hz7 hm2 h hg => ?_)
    have hm := hm.tn hm2
    refine W_narrow hg hH (show sz s5 ≤ sz σ + (sz s5 - sz σ) by have q1 := hm.2.1; omega) (Nat.le_refl _) ?_
    refine W.widen (k := tp - sz σ) (n := 9 * (tp - sz σ)) (show sz s5 - sz σ ≤ _ by have q1 := hm.2.2; omega) (show 9 * (sz s5 - sz σ) ≤ _ by have q1 := hm.2.2; omega) ?_
    exact ret_i hx hb hr hlocks hg hz7 hm h dX8_fill_40
  · have h := h.2 c4
    refine lv_iload_n hx hb dX8_fill_7 rfl (lv_at hl 2 rfl) ?_
    refine call_z (run_S (As := [.int (iI (a2))]) (rest := []) ⟨hx, hb, hml, hown, hts⟩ (ctX8_isKey l E a2 s1 _ ha2 h) (va_cwS 1 hts gX8_fill_X8_isKey rfl rfl rfl hdX8_isKey ⟨Nat.le_of_ble_eq_true rfl, Nat.le_of_ble_eq_true rfl⟩) hK hN hg rfl hl.1 rfl (cat_sum _ (by simp)) dX8_fill_8 (show (sz s1 - sz σ) + 0 ≤ tp - sz σ ∧ 9 * (sz s1 - sz σ) + 0 ≤ 9 * (tp - sz σ) by have q1 := hm.2.1; have q2 := hm.2.2; omega)) hg (fun r9 s8 H locs hz10 hm2 h hg => ?_)
    have hm := hm.tn hm2
    refine W_narrow hg hH (show sz s8 ≤ sz σ + (sz s8 - sz σ) by have q1 := hm.2.1; omega) (Nat.le_refl _) ?_
    refine k_eq (tgt := 36) hx hb dX8_fill_11 (by decide) (z_R hz10) (fun c11 => ?_) (fun c11 => ?_)
    · have h := h.1 c11
      refine lv_aload_n hx hb dX8_fill_36 rfl (lv_at hl 0 rfl) ?_
      refine call_i (run_V (a := ea E 0) (As := []) (rest := []) ⟨hx, hb, hml, hown, hts⟩ (ctX8_bad l E  s8 _  h) (cwV 0 hts gX8_fill_X8_bad rfl rfl rfl ⟨rfl, hdX8_bad⟩ ⟨Nat.le_of_ble_eq_true rfl, Nat.le_of_ble_eq_true rfl⟩) hK hN hg (recv_x (ci := 8) (C := RX8) (T := TX8) (N := 14) hg hK (by decide) rfl (by decide) rfl) rfl hl.1 rfl (cat_sum _ (by simp)) dX8_fill_37 (show (sz s8 - sz σ) + 0 ≤ tp - sz σ ∧ 9 * (sz s8 - sz σ) + 0 ≤ 9 * (tp - sz σ) by have q1 := hm.2.1; have q2 := hm.2.2; omega)) hg (fun r13 s12 H locs hz14 hm2 h hg => ?_)
      have hm := hm.tn hm2
      refine W_narrow hg hH (show sz s12 ≤ sz σ + (sz s12 - sz σ) by have q1 := hm.2.1; omega) (Nat.le_refl _) ?_
      refine W.widen (k := tp - sz σ) (n := 9 * (tp - sz σ)) (show sz s12 - sz σ ≤ _ by have q1 := hm.2.2; omega) (show 9 * (sz s12 - sz σ) ≤ _ by have q1 := hm.2.2; omega) ?_
      exact ret_i hx hb hr hlocks hg hz14 hm h dX8_fill_40
    · have h := h.2 c11
      refine lv_iload_n hx hb dX8_fill_14 rfl (lv_at hl 3 rfl) ?_
      refine lv_iconst (v := iI 0) hx hb dX8_fill_15 (by decide) ?_
      refine lv_sipush (v := iI 200) hx hb dX8_fill_16 (by decide) ?_
      refine call_z (run_S (As := [.int (iI (a3)), .int (iI (0)), .int (iI (200))]) (rest := []) ⟨hx, hb, hml, hown, hts⟩ (ctX8_isIn l E a3 0 200 s8 _ ha3 (by decide) (by decide) h) (va_cwS 3 hts gX8_fill_X8_isIn rfl rfl rfl hdX8_isIn ⟨Nat.le_of_ble_eq_true rfl, Nat.le_of_ble_eq_true rfl⟩) hK hN hg rfl hl.1 rfl (cat_sum _ (by simp)) dX8_fill_19 (show (sz s8 - sz σ) + 0 ≤ tp - sz σ ∧ 9 * (sz s8 - sz σ) + 0 ≤ 9 * (tp - sz σ) by have q1 := hm.2.1; have q2 := hm.2.2; omega)) hg (fun r16 s15 H locs hz17 hm2 h hg => ?_)
      have hm := hm.tn hm2
      refine W_narrow hg hH (show sz s15 ≤ sz σ + (sz s15 - sz σ) by have q1 := hm.2.1; omega) (Nat.le_refl _) ?_
      refine k_eq (tgt := 36) hx hb dX8_fill_22 (by decide) (z_R hz17) (fun c18 => ?_) (fun c18 => ?_)
      · have h := h.1 c18
        refine lv_aload_n hx hb dX8_fill_36 rfl (lv_at hl 0 rfl) ?_
        refine call_i (run_V (a := ea E 0) (As := []) (rest := []) ⟨hx, hb, hml, hown, hts⟩ (ctX8_bad l E  s15 _  h) (cwV 0 hts gX8_fill_X8_bad rfl rfl rfl ⟨rfl, hdX8_bad⟩ ⟨Nat.le_of_ble_eq_true rfl, Nat.le_of_ble_eq_true rfl⟩) hK hN hg (recv_x (ci := 8) (C := RX8) (T := TX8) (N := 14) hg hK (by decide) rfl (by decide) rfl) rfl hl.1 rfl (cat_sum _ (by simp)) dX8_fill_37 (show (sz s15 - sz σ) + 0 ≤ tp - sz σ ∧ 9 * (sz s15 - sz σ) + 0 ≤ 9 * (tp - sz σ) by have q1 := hm.2.1; have q2 := hm.2.2; omega)) hg (fun r20 s19 H locs hz21 hm2 h hg => ?_)
        have hm := hm.tn hm2
        refine W_narrow hg hH (show sz s19 ≤ sz σ + (sz s19 - sz σ) by have q1 := hm.2.1; omega) (Nat.le_refl _) ?_
        refine W.widen (k := tp - sz σ) (n := 9 * (tp - sz σ)) (show sz s19 - sz σ ≤ _ by have q1 := hm.2.2; omega) (show 9 * (sz s19 - sz σ) ≤ _ by have q1 := hm.2.2; omega) ?_
        exact ret_i hx hb hr hlocks hg hz21 hm h dX8_fill_40
      · have h := h.2 c18
        refine lv_iload hx hb dX8_fill_25 (lv_at hl 4 rfl) ?_
        refine lv_iconst (v := iI 1) hx hb dX8_fill_27 (by decide) ?_
        refine lv_bipush (v := iI 50) hx hb dX8_fill_28 (by decide) ?_
        refine call_z (run_S (As := [.int (iI (a4)), .int (iI (1)), .int (iI (50))]) (rest := []) ⟨hx, hb, hml, hown, hts⟩ (ctX8_isIn l E a4 1 50 s15 _ ha4 (by decide) (by decide) h) (va_cwS 3 hts gX8_fill_X8_isIn rfl rfl rfl hdX8_isIn ⟨Nat.le_of_ble_eq_true rfl, Nat.le_of_ble_eq_true rfl⟩) hK hN hg rfl hl.1 rfl (cat_sum _ (by simp)) dX8_fill_30 (show (sz s15 - sz σ) + 0 ≤ tp - sz σ ∧ 9 * (sz s15 - sz σ) + 0 ≤ 9 * (tp - sz σ) by have q1 := hm.2.1; have q2 := hm.2.2; omega)) hg (fun r23 s22 H locs hz24 hm2 h hg => ?_)
        have hm := hm.tn hm2
        refine W_narrow hg hH (show sz s22 ≤ sz σ + (sz s22 - sz σ) by have q1 := hm.2.1; omega) (Nat.le_refl _) ?_
        refine k_ne (tgt := 41) hx hb dX8_fill_33 (by decide) (z_R hz24) (fun c25 => ?_) (fun c25 => ?_)
        · have h := h.1 c25
          refine lv_iload_n hx hb dX8_fill_41 rfl (lv_at hl 3 rfl) ?_
          refine k_le (tgt := 64) hx hb dX8_fill_42 (by decide) ha3 (fun c26 => ?_) (fun c26 => ?_)
          · have h := h.1 c26
            refine lv_aload_n hx hb dX8_fill_64 rfl (lv_at hl 0 rfl) ?_
            refine q_getx (ci := 8) (C := RX8) (T := TX8) (N := 14) (j := 15) hx hb hts (fun _ h9 => List.mem_cons_of_mem _ (List.mem_append_left _ (List.mem_append_left _ (List.mem_append_left _ (List.mem_append_left _ (List.mem_append_left _ (List.mem_append_right _ h9))))))) hown hK hg 0 (by decide) rfl rfl (by decide) rfl 8 (by decide) (hts (.fieldLink RX8 68 "JoinMaps" "first" "LJoinMaps$Row;") (List.mem_cons_of_mem _ (List.mem_append_left _ (List.mem_append_left _ (List.mem_append_left _ (List.mem_append_left _ (List.mem_append_left _ (List.mem_append_left _ (List.mem_append_left _ (List.mem_of_getElem? (i := 0) rfl)))))))))) rfl rfl rfl dX8_fill_65 ?_
            refine call_v (run_V (a := ea E 15) (As := []) (rest := []) ⟨hx, hb, hml, hown, hts⟩ (ctX6_empty l E 15 s22 _ (by decide) h) (cwV 0 hts gX8_fill_X6_empty rfl rfl rfl ⟨rfl, hdX6_empty⟩ ⟨Nat.le_of_ble_eq_true rfl, Nat.le_of_ble_eq_true rfl⟩) hK hN hg (recv_x (ci := 6) (C := RX6) (T := TX6) (N := 3) hg hK (by decide) rfl (by decide) rfl) rfl hl.1 rfl (cat_sum _ (by simp)) dX8_fill_68 (show (sz s22 - sz σ) + 0 ≤ tp - sz σ ∧ 9 * (sz s22 - sz σ) + 0 ≤ 9 * (tp - sz σ) by have q1 := hm.2.1; have q2 := hm.2.2; omega)) hg (fun s27 H locs hm2 h hg => ?_)
            have hm := hm.tn hm2
            refine W_narrow hg hH (show sz s27 ≤ sz σ + (sz s27 - sz σ) by have q1 := hm.2.1; omega) (Nat.le_refl _) ?_
            refine lv_iconst (v := iI 0) hx hb dX8_fill_71 (by decide) ?_
            refine lv_istore (i := 5) (lv' := [(5, .int (iI (0))), (0, .ref (ea E 0)), (1, .int (iI (a1))), (2, .int (iI (a2))), (3, .int (iI (a3))), (4, .int (iI (a4)))]) hx hb dX8_fill_72 hl (by decide) rfl (fun ls hl => ?_)
            obtain ⟨kk, h⟩ := h
            exact J74  kk (0) (s27) _ _ _ hg hm (lv_sub hl [1, 2, 3, 4, 5, 0] rfl) h
          · have h := h.2 c26
            refine lv_iload_n hx hb dX8_fill_45 rfl (lv_at hl 2 rfl) ?_
            refine lv_iload_n hx hb dX8_fill_46 rfl (lv_at hl 3 rfl) ?_
            refine lv_iconst (v := iI 1) hx hb dX8_fill_47 (by decide) ?_
            refine q_isub hx hb dX8_fill_48 ?_
            refine lv_iload hx hb dX8_fill_49 (lv_at hl 4 rfl) ?_
            refine q_imul hx hb dX8_fill_51 ?_
            refine q_iadd hx hb dX8_fill_52 ?_
            refine lv_sipush (v := iI 500) hx hb dX8_fill_53 (by decide) ?_
            obtain ⟨hR30, h⟩ := h
            refine j_le (tgt := 64) hx hb dX8_fill_56 (by decide) hR30 (by decide) (fun c31 => ?_) (fun c31 => ?_)
            · have h := h.1 c31
              refine lv_aload_n hx hb dX8_fill_64 rfl (lv_at hl 0 rfl) ?_
              refine q_getx (ci := 8) (C := RX8) (T := TX8) (N := 14) (j := 15) hx hb hts (fun _ h9 => List.mem_cons_of_mem _ (List.mem_append_left _ (List.mem_append_left _ (List.mem_append_left _ (List.mem_append_left _ (List.mem_append_left _ (List.mem_append_right _ h9))))))) hown hK hg 0 (by decide) rfl rfl (by decide) rfl 8 (by decide) (hts (.fieldLink RX8 68 "JoinMaps" "first" "LJoinMaps$Row;") (List.mem_cons_of_mem _ (List.mem_append_left _ (List.mem_append_left _ (List.mem_append_left _ (List.mem_append_left _ (List.mem_append_left _ (List.mem_append_left _ (List.mem_append_left _ (List.mem_of_getElem? (i := 0) rfl)))))))))) rfl rfl rfl dX8_fill_65 ?_
              refine call_v (run_V (a := ea E 15) (As := []) (rest := []) ⟨hx, hb, hml, hown, hts⟩ (ctX6_empty l E 15 s22 _ (by decide) h) (cwV 0 hts gX8_fill_X6_empty rfl rfl rfl ⟨rfl, hdX6_empty⟩ ⟨Nat.le_of_ble_eq_true rfl, Nat.le_of_ble_eq_true rfl⟩) hK hN hg (recv_x (ci := 6) (C := RX6) (T := TX6) (N := 3) hg hK (by decide) rfl (by decide) rfl) rfl hl.1 rfl (cat_sum _ (by simp)) dX8_fill_68 (show (sz s22 - sz σ) + 0 ≤ tp - sz σ ∧ 9 * (sz s22 - sz σ) + 0 ≤ 9 * (tp - sz σ) by have q1 := hm.2.1; have q2 := hm.2.2; omega)) hg (fun s32 H locs hm2 h hg => ?_)
              have hm := hm.tn hm2
              refine W_narrow hg hH (show sz s32 ≤ sz σ + (sz s32 - sz σ) by have q1 := hm.2.1; omega) (Nat.le_refl _) ?_
              refine lv_iconst (v := iI 0) hx hb dX8_fill_71 (by decide) ?_
              refine lv_istore (i := 5) (lv' := [(5, .int (iI (0))), (0, .ref (ea E 0)), (1, .int (iI (a1))), (2, .int (iI (a2))), (3, .int (iI (a3))), (4, .int (iI (a4)))]) hx hb dX8_fill_72 hl (by decide) rfl (fun ls hl => ?_)
              obtain ⟨kk, h⟩ := h
              exact J74  kk (0) (s32) _ _ _ hg hm (lv_sub hl [1, 2, 3, 4, 5, 0] rfl) h
            · have h := h.2 c31
              refine lv_aload_n hx hb dX8_fill_59 rfl (lv_at hl 0 rfl) ?_
              refine call_i (run_V (a := ea E 0) (As := []) (rest := []) ⟨hx, hb, hml, hown, hts⟩ (ctX8_no l E  s22 _  h) (cwV 0 hts gX8_fill_X8_no rfl rfl rfl ⟨rfl, hdX8_no⟩ ⟨Nat.le_of_ble_eq_true rfl, Nat.le_of_ble_eq_true rfl⟩) hK hN hg (recv_x (ci := 8) (C := RX8) (T := TX8) (N := 14) hg hK (by decide) rfl (by decide) rfl) rfl hl.1 rfl (cat_sum _ (by simp)) dX8_fill_60 (show (sz s22 - sz σ) + 0 ≤ tp - sz σ ∧ 9 * (sz s22 - sz σ) + 0 ≤ 9 * (tp - sz σ) by have q1 := hm.2.1; have q2 := hm.2.2; omega)) hg (fun r36 s35 H locs hz37 hm2 h hg => ?_)
              have hm := hm.tn hm2
              refine W_narrow hg hH (show sz s35 ≤ sz σ + (sz s35 - sz σ) by have q1 := hm.2.1; omega) (Nat.le_refl _) ?_
              refine W.widen (k := tp - sz σ) (n := 9 * (tp - sz σ)) (show sz s35 - sz σ ≤ _ by have q1 := hm.2.2; omega) (show 9 * (sz s35 - sz σ) ≤ _ by have q1 := hm.2.2; omega) ?_
              exact ret_i hx hb hr hlocks hg hz37 hm h dX8_fill_63
        · have h := h.2 c25
          refine lv_aload_n hx hb dX8_fill_36 rfl (lv_at hl 0 rfl) ?_
          refine call_i (run_V (a := ea E 0) (As := []) (rest := []) ⟨hx, hb, hml, hown, hts⟩ (ctX8_bad l E  s22 _  h) (cwV 0 hts gX8_fill_X8_bad rfl rfl rfl ⟨rfl, hdX8_bad⟩ ⟨Nat.le_of_ble_eq_true rfl, Nat.le_of_ble_eq_true rfl⟩) hK hN hg (recv_x (ci := 8) (C := RX8) (T := TX8) (N := 14) hg hK (by decide) rfl (by decide) rfl) rfl hl.1 rfl (cat_sum _ (by simp)) dX8_fill_37 (show (sz s22 - sz σ) + 0 ≤ tp - sz σ ∧ 9 * (sz s22 - sz σ) + 0 ≤ 9 * (tp - sz σ) by have q1 := hm.2.1; have q2 := hm.2.2; omega)) hg (fun r39 s38 H locs hz40 hm2 h hg => ?_)
          have hm := hm.tn hm2
          refine W_narrow hg hH (show sz s38 ≤ sz σ + (sz s38 - sz σ) by have q1 := hm.2.1; omega) (Nat.le_refl _) ?_
          refine W.widen (k := tp - sz σ) (n := 9 * (tp - sz σ)) (show sz s38 - sz σ ≤ _ by have q1 := hm.2.2; omega) (show 9 * (sz s38 - sz σ) ≤ _ by have q1 := hm.2.2; omega) ?_
          exact ret_i hx hb hr hlocks hg hz40 hm h dX8_fill_40
theorem hdX8_passes : yX8_passes.cls ≠ "java/lang/invoke/MethodHandle" ∧ yX8_passes.cls ≠ "java/lang/invoke/VarHandle" ∧ (parseMethodDescriptor yX8_passes.desc).map (fun d => d.parameters.length) = some 4 := by decide +kernel
set_option maxRecDepth 100000 in
set_option maxHeartbeats 4000000 in
theorem ctX8_passes (l : Launch) (E : Ev) (a0 : Int) (a1 : Int) (a2 : Int) (a3 : Int) (σ : SS) (Q : Int → SS → Prop) (ha0 : R32 a0) (ha1 : R32 a1) (ha2 : R32 a2) (ha3 : R32 a3) (h : wX8_passes a0 a1 a2 a3 σ Q) : Met l yX8_passes wsX8_passes ({ frames := 0, cells := 0, slots := 0, locals := 0 } : Room) (Pc E σ [.int (iI (a0)), .int (iI (a1)), .int (iI (a2)), .int (iI (a3))]) (Qz E (sz σ) σ Q) 0 0 (Av E) := by
  rw [wX8_passes] at h
  refine Met.ofW (cc := cX8_passes) (maxL := 6) (ret := (some .boolean)) (by decide) rfl ?_
  intro p e s m args below meth c s₁ B hml hv
  obtain ⟨rfl, hH, hK, hN⟩ := hv
  have hx := B.exec
  have hb := B.bytes
  have hr := B.returns
  have hts := atoms_spec (ws := wsX8_passes) B.pre
  have hown : s.vm.findClass RX8 = some m.cls := findClass_of_methodNamed B.named
  have hlocks := B.notSynchronized
  have hg : GS E σ s s.heap [] := ⟨hH, va_S.rf⟩
  have hm : Mo (sz σ) σ σ := Mo.rf (Nat.le_refl _)
  have hl := ent (vs := [.int (iI (a0)), .int (iI (a1)), .int (iI (a2)), .int (iI (a3))]) (n := 6) (cats_i (cats_i (cats_i (cats_i cats_nil)))) (Nat.le_of_ble_eq_true rfl)
  rw [lg_entry_eq]
  generalize (lg_sl ([.int (iI (a0)), .int (iI (a1)), .int (iI (a2)), .int (iI (a3))]) ++ List.replicate (6 - (lg_sl ([.int (iI (a0)), .int (iI (a1)), .int (iI (a2)), .int (iI (a3))])).length) Slot.unset).toArray = ls at hl ⊢
  have hl : lv_has ls 6 [(0, .int (iI (a0))), (1, .int (iI (a1))), (2, .int (iI (a2))), (3, .int (iI (a3)))] := hl
  have J26 : ∀ (v4 : Int) (u0 : Int) (sL : SS) (H : Heap) (locs : List Loc) (ls : Array Slot), GS E sL s H locs → Mo (sz σ) σ sL → lv_has ls 6 [(0, .int (iI (a0))), (2, .int (iI (a2))), (4, .int (iI (v4)))] → wX8_passes_L26 a0 a1 a2 a3 Q  v4 u0 sL → W p l e (headSpec wsX8_passes ({ frames := 0, cells := 0, slots := 0, locals := 0 } : Room)).room s m (List.toArray [.int (iI (a0)), .int (iI (a1)), .int (iI (a2)), .int (iI (a3))]) below meth c H locs 0 0 (MQ below (Qz E (sz σ) σ Q) (List.toArray [.int (iI (a0)), .int (iI (a1)), .int (iI (a2)), .int (iI (a3))]) s 0 0 (Av E)) (F0 m 26 ls [.int (iI (u0))]) := by
    intro v4 u0 sL H locs ls hg hm hl h
    rw [wX8_passes_L26] at h
    refine lv_istore (i := 5) (lv' := [(5, .int (iI (u0))), (0, .int (iI (a0))), (2, .int (iI (a2))), (4, .int (iI (v4)))]) hx hb dX8_passes_26 hl (by decide) rfl (fun ls hl => ?_)
    refine lv_iload_n hx hb dX8_passes_28 rfl (lv_at hl 1 rfl) ?_
    rcases (show (a0 < 1 ∨ 4 < a0) ∨ a0 = 1 ∨ a0 = 2 ∨ a0 = 3 ∨ a0 = 4 by omega) with c0 | c0 | c0 | c0 | c0
    · have h := h.1 c0
      refine lv_tableOut (tgt := 89) hx hb dX8_passes_29 (by rw [iI_int ha0]; omega) (by decide) ?_
      refine lv_iconst (v := iI 1) hx hb dX8_passes_89 (by decide) ?_
      exact ret_z hx hb hr hlocks hg (by decide) hm h dX8_passes_90
    · have h := h.2.1 c0
      refine lv_tableIn (off := 31) (tgt := 60) hx hb dX8_passes_29 (by rw [iI_int ha0, c0]; decide) (by rw [iI_int ha0, c0]; decide) (by rw [iI_int ha0, c0]; rfl) (by decide) ?_
      refine lv_iload_n hx hb dX8_passes_60 rfl (lv_at hl 2 rfl) ?_
      refine lv_iconst (v := iI 2) hx hb dX8_passes_61 (by decide) ?_
      refine q_irem hx hb ha2 (by decide) (by decide) dX8_passes_62 ?_
      obtain ⟨hR5, h⟩ := h
      refine k_ne (tgt := 70) hx hb dX8_passes_63 (by decide) hR5 (fun c6 => ?_) (fun c6 => ?_)
      · have h := h.1 c6
        refine lv_iconst (v := iI 0) hx hb dX8_passes_70 (by decide) ?_
        exact ret_z hx hb hr hlocks hg (by decide) hm h dX8_passes_71
      · have h := h.2 c6
        refine lv_iconst (v := iI 1) hx hb dX8_passes_66 (by decide) ?_
        refine lv_goto (tgt := 71) hx hb dX8_passes_67 (by decide) ?_
        exact ret_z hx hb hr hlocks hg (by decide) hm h dX8_passes_71
    · have h := h.2.2.1 c0
      refine lv_tableIn (off := 43) (tgt := 72) hx hb dX8_passes_29 (by rw [iI_int ha0, c0]; decide) (by rw [iI_int ha0, c0]; decide) (by rw [iI_int ha0, c0]; rfl) (by decide) ?_
      refine lv_iload hx hb dX8_passes_72 (lv_at hl 3 rfl) ?_
      obtain ⟨hz7, h⟩ := h
      exact ret_z hx hb hr hlocks hg hz7 hm h dX8_passes_74
    · have h := h.2.2.2.1 c0
      refine lv_tableIn (off := 46) (tgt := 75) hx hb dX8_passes_29 (by rw [iI_int ha0, c0]; decide) (by rw [iI_int ha0, c0]; decide) (by rw [iI_int ha0, c0]; rfl) (by decide) ?_
      refine lv_iload hx hb dX8_passes_75 (lv_at hl 0 rfl) ?_
      obtain ⟨hz8, h⟩ := h
      exact ret_z hx hb hr hlocks hg hz8 hm h dX8_passes_77
    · have h := h.2.2.2.2 c0
      refine lv_tableIn (off := 49) (tgt := 78) hx hb dX8_passes_29 (by rw [iI_int ha0, c0]; decide) (by rw [iI_int ha0, c0]; decide) (by rw [iI_int ha0, c0]; rfl) (by decide) ?_
      refine lv_iload hx hb dX8_passes_78 (lv_at hl 0 rfl) ?_
      obtain ⟨hR9, h⟩ := h
      refine k_ne (tgt := 87) hx hb dX8_passes_80 (by decide) hR9 (fun c10 => ?_) (fun c10 => ?_)
      · have h := h.1 c10
        refine lv_iconst (v := iI 0) hx hb dX8_passes_87 (by decide) ?_
        exact ret_z hx hb hr hlocks hg (by decide) hm h dX8_passes_88
      · have h := h.2 c10
        refine lv_iconst (v := iI 1) hx hb dX8_passes_83 (by decide) ?_
        refine lv_goto (tgt := 88) hx hb dX8_passes_84 (by decide) ?_
        exact ret_z hx hb hr hlocks hg (by decide) hm h dX8_passes_88
  have J25 : ∀ (K26 : Int → Int → SS → Prop) (hK26 : ∀ (v4 : Int) (u0 : Int) (sL : SS) (H : Heap) (locs : List Loc) (ls : Array Slot), GS E sL s H locs → Mo (sz σ) σ sL → lv_has ls 6 [(0, .int (iI (a0))), (2, .int (iI (a2))), (4, .int (iI (v4)))] → K26 v4 u0 sL → W p l e (headSpec wsX8_passes ({ frames := 0, cells := 0, slots := 0, locals := 0 } : Room)).room s m (List.toArray [.int (iI (a0)), .int (iI (a1)), .int (iI (a2)), .int (iI (a3))]) below meth c H locs 0 0 (MQ below (Qz E (sz σ) σ Q) (List.toArray [.int (iI (a0)), .int (iI (a1)), .int (iI (a2)), .int (iI (a3))]) s 0 0 (Av E)) (F0 m 26 ls [.int (iI (u0))])), ∀ (v4 : Int) (sL : SS) (H : Heap) (locs : List Loc) (ls : Array Slot), GS E sL s H locs → Mo (sz σ) σ sL → lv_has ls 6 [(0, .int (iI (a0))), (2, .int (iI (a2))), (4, .int (iI (v4)))] → wX8_passes_L25 a0 a1 a2 a3 Q K26 v4 sL → W p l e (headSpec wsX8_passes ({ frames := 0, cells := 0, slots := 0, locals := 0 } : Room)).room s m (List.toArray [.int (iI (a0)), .int (iI (a1)), .int (iI (a2)), .int (iI (a3))]) below meth c H locs 0 0 (MQ below (Qz E (sz σ) σ Q) (List.toArray [.int (iI (a0)), .int (iI (a1)), .int (iI (a2)), .int (iI (a3))]) s 0 0 (Av E)) (F0 m 25 ls []) := by
    intro K26 hK26 v4 sL H locs ls hg hm hl h
    rw [wX8_passes_L25] at h
    refine lv_iconst (v := iI 0) hx hb dX8_passes_25 (by decide) ?_
    exact hK26 (v4) (0) (sL) _ _ _ hg hm (lv_sub hl [0, 1, 2] rfl) h
  have J10 : ∀ (u0 : Int) (sL : SS) (H : Heap) (locs : List Loc) (ls : Array Slot), GS E sL s H locs → Mo (sz σ) σ sL → lv_has ls 6 [(0, .int (iI (a0))), (2, .int (iI (a2)))] → wX8_passes_L10 a0 a1 a2 a3 Q  u0 sL → W p l e (headSpec wsX8_passes ({ frames := 0, cells := 0, slots := 0, locals := 0 } : Room)).room s m (List.toArray [.int (iI (a0)), .int (iI (a1)), .int (iI (a2)), .int (iI (a3))]) below meth c H locs 0 0 (MQ below (Qz E (sz σ) σ Q) (List.toArray [.int (iI (a0)), .int (iI (a1)), .int (iI (a2)), .int (iI (a3))]) s 0 0 (Av E)) (F0 m 10 ls [.int (iI (u0))]) := by
    intro u0 sL H locs ls hg hm hl h
    rw [wX8_passes_L10] at h
    refine lv_istore (i := 4) (lv' := [(4, .int (iI (u0))), (0, .int (iI (a0))), (2, .int (iI (a2)))]) hx hb dX8_passes_10 hl (by decide) rfl (fun ls hl => ?_)
    refine lv_iload hx hb dX8_passes_12 (lv_at hl 0 rfl) ?_
    obtain ⟨hR2, h⟩ := h
    refine k_eq (tgt := 25) hx hb dX8_passes_14 (by decide) hR2 (fun c3 => ?_) (fun c3 => ?_)
    · have h := h.1 c3
      exact J25 _ (fun v4 u0 sL H locs ls hg hm hl h => J26  v4 u0 sL H locs ls hg hm hl h) (u0) (sL) _ _ _ hg hm (lv_sub hl [1, 2, 0] rfl) h
    · have h := h.2 c3
      refine lv_iload_n hx hb dX8_passes_17 rfl (lv_at hl 2 rfl) ?_
      refine k_le (tgt := 25) hx hb dX8_passes_18 (by decide) ha2 (fun c4 => ?_) (fun c4 => ?_)
      · have h := h.1 c4
        exact J25 _ (fun v4 u0 sL H locs ls hg hm hl h => J26  v4 u0 sL H locs ls hg hm hl h) (u0) (sL) _ _ _ hg hm (lv_sub hl [1, 2, 0] rfl) h
      · have h := h.2 c4
        refine lv_iconst (v := iI 1) hx hb dX8_passes_21 (by decide) ?_
        refine lv_goto (tgt := 26) hx hb dX8_passes_22 (by decide) ?_
        exact J26  (u0) (1) (sL) _ _ _ hg hm (lv_sub hl [1, 2, 0] rfl) h
  refine lv_iload_n hx hb dX8_passes_0 rfl (lv_at hl 3 rfl) ?_
  refine lv_iload_n hx hb dX8_passes_1 rfl (lv_at hl 1 rfl) ?_
  refine j_le (tgt := 9) hx hb dX8_passes_2 (by decide) ha3 ha1 (fun c1 => ?_) (fun c1 => ?_)
  · have h := h.1 c1
    refine lv_iconst (v := iI 0) hx hb dX8_passes_9 (by decide) ?_
    exact J10  (0) (σ) _ _ _ hg hm (lv_sub hl [0, 2] rfl) h
  · have h := h.2 c1
    refine lv_iconst (v := iI 1) hx hb dX8_passes_5 (by decide) ?_
    refine lv_goto (tgt := 10) hx hb dX8_passes_6 (by decide) ?_
    exact J10  (1) (σ) _ _ _ hg hm (lv_sub hl [0, 2] rfl) h
theorem hdX8_sieve : yX8_sieve.cls ≠ "java/lang/invoke/MethodHandle" ∧ yX8_sieve.cls ≠ "java/lang/invoke/VarHandle" ∧ (parseMethodDescriptor yX8_sieve.desc).map (fun d => d.parameters.length) = some 4 := by decide +kernel
set_option maxRecDepth 100000 in
set_option maxHeartbeats 4000000 in
theorem ctX8_sieve (l : Launch) (E : Ev) (tp : Nat) (a1 : Int) (a2 : Int) (a3 : Int) (a4 : Int) (σ : SS) (Q : Int → SS → Prop) (ha1 : R32 a1) (ha2 : R32 a2) (ha3 : R32 a3) (ha4 : R32 a4) (ht : sz σ ≤ tp) (h : wX8_sieve tp a1 a2 a3 a4 σ Q) : Met l yX8_sieve wsX8_sieve ({ frames := 95, cells := tp - sz σ, slots := 9 * (tp - sz σ), locals := 2565 } : Room) (Pc E σ [.ref (ea E 0), .int (iI (a1)), .int (iI (a2)), .int (iI (a3)), .int (iI (a4))]) (Qi E tp σ Q) (tp - sz σ) (9 * (tp - sz σ)) (Av E) := by
  rw [wX8_sieve] at h
  refine Met.ofW (cc := cX8_sieve) (maxL := 8) (ret := (some .int)) (by decide) rfl ?_
  intro p e s m args below meth c s₁ B hml hv
  obtain ⟨rfl, hH, hK, hN⟩ := hv
  have hx := B.exec
  have hb := B.bytes
  have hr := B.returns
  have hts := atoms_spec (ws := wsX8_sieve) B.pre
  have hown : s.vm.findClass RX8 = some m.cls := findClass_of_methodNamed B.named
  have hlocks := B.notSynchronized
  have hg : GS E σ s s.heap [] := ⟨hH, va_S.rf⟩
  have hm : Mo tp σ σ := Mo.rf ht
  have hl := ent (vs := [.ref (ea E 0), .int (iI (a1)), .int (iI (a2)), .int (iI (a3)), .int (iI (a4))]) (n := 8) (cats_x (cats_i (cats_i (cats_i (cats_i cats_nil))))) (Nat.le_of_ble_eq_true rfl)
  rw [lg_entry_eq]
  generalize (lg_sl ([.ref (ea E 0), .int (iI (a1)), .int (iI (a2)), .int (iI (a3)), .int (iI (a4))]) ++ List.replicate (8 - (lg_sl ([.ref (ea E 0), .int (iI (a1)), .int (iI (a2)), .int (iI (a3)), .int (iI (a4))])).length) Slot.unset).toArray = ls at hl ⊢
  have hl : lv_has ls 8 [(0, .ref (ea E 0)), (1, .int (iI (a1))), (2, .int (iI (a2))), (3, .int (iI (a3))), (4, .int (iI (a4)))] := hl
  refine W_narrow hg hH (show sz σ ≤ sz σ + (sz σ - sz σ) by omega) (show 9 * (sz σ - sz σ) ≤ 9 * (sz σ - sz σ) from Nat.le_refl _) ?_
  have J59 : ∀ (k : Nat), ∀ (v5 : Int) (sL : SS) (H : Heap) (locs : List Loc) (ls : Array Slot), GS E sL s H locs → Mo tp σ sL → lv_has ls 8 [(0, .ref (ea E 0)), (2, .int (iI (a2))), (3, .int (iI (a3))), (4, .int (iI (a4))), (5, .int (iI (v5)))] → wX8_sieve_L59 tp a1 a2 a3 a4 Q  k v5 sL → W p l e (headSpec wsX8_sieve ({ frames := 95, cells := tp - sz σ, slots := 9 * (tp - sz σ), locals := 2565 } : Room)).room s m (List.toArray [.ref (ea E 0), .int (iI (a1)), .int (iI (a2)), .int (iI (a3)), .int (iI (a4))]) below meth c H locs (sz sL - sz σ) (9 * (sz sL - sz σ)) (MQ below (Qi E tp σ Q) (List.toArray [.ref (ea E 0), .int (iI (a1)), .int (iI (a2)), .int (iI (a3)), .int (iI (a4))]) s (tp - sz σ) (9 * (tp - sz σ)) (Av E)) (F0 m 59 ls []) := by
    intro k
    induction k with
    | zero => intro v5 sL H locs ls hg hm hl h; exact False.elim h
    | succ k ih =>
      intro v5 sL H locs ls hg hm hl h
      rw [wX8_sieve_L59] at h
      refine lv_iload hx hb dX8_sieve_59 (lv_at hl 4 rfl) ?_
      refine lv_aload_n hx hb dX8_sieve_61 rfl (lv_at hl 0 rfl) ?_
      refine q_getx (ci := 8) (C := RX8) (T := TX8) (N := 14) (j := 15) hx hb hts (fun _ h9 => List.mem_cons_of_mem _ (List.mem_append_left _ (List.mem_append_left _ (List.mem_append_left _ (List.mem_append_left _ (List.mem_append_left _ (List.mem_append_right _ h9))))))) hown hK hg 0 (by decide) rfl rfl (by decide) rfl 8 (by decide) (hts (.fieldLink RX8 68 "JoinMaps" "first" "LJoinMaps$Row;") (List.mem_cons_of_mem _ (List.mem_append_left _ (List.mem_append_left _ (List.mem_append_left _ (List.mem_append_left _ (List.mem_append_left _ (List.mem_append_left _ (List.mem_append_left _ (List.mem_of_getElem? (i := 0) rfl)))))))))) rfl rfl rfl dX8_sieve_62 ?_
      refine q_geti (ci := 6) (C := RX6) (T := TX6) (N := 3) hx hb hts (fun _ h9 => List.mem_cons_of_mem _ (List.mem_append_left _ (List.mem_append_left _ (List.mem_append_left _ (List.mem_append_left _ (List.mem_append_right _ h9)))))) hown hK hg 15 (by decide) rfl rfl (by decide) rfl 2 (by decide) (hts (.fieldLink RX8 153 "JoinMaps$Row" "length" "I") (List.mem_cons_of_mem _ (List.mem_append_left _ (List.mem_append_left _ (List.mem_append_left _ (List.mem_append_left _ (List.mem_append_left _ (List.mem_append_left _ (List.mem_append_left _ (List.mem_of_getElem? (i := 3) rfl)))))))))) rfl rfl dX8_sieve_65 ?_
      have hR38 := GS_R hg 15 2
      obtain ⟨hR39, h⟩ := h
      refine j_ge (tgt := 122) hx hb dX8_sieve_68 (by decide) hR39 hR38 (fun c40 => ?_) (fun c40 => ?_)
      · have h := h.1 c40
        refine lv_aload_n hx hb dX8_sieve_122 rfl (lv_at hl 0 rfl) ?_
        refine lv_iload hx hb dX8_sieve_123 (lv_at hl 3 rfl) ?_
        refine lv_aload_n hx hb dX8_sieve_125 rfl (lv_at hl 0 rfl) ?_
        refine q_getx (ci := 8) (C := RX8) (T := TX8) (N := 14) (j := 18) hx hb hts (fun _ h9 => List.mem_cons_of_mem _ (List.mem_append_left _ (List.mem_append_left _ (List.mem_append_left _ (List.mem_append_left _ (List.mem_append_left _ (List.mem_append_right _ h9))))))) hown hK hg 0 (by decide) rfl rfl (by decide) rfl 9 (by decide) (hts (.fieldLink RX8 72 "JoinMaps" "second" "LJoinMaps$Row;") (List.mem_cons_of_mem _ (List.mem_append_left _ (List.mem_append_left _ (List.mem_append_left _ (List.mem_append_left _ (List.mem_append_left _ (List.mem_append_left _ (List.mem_append_left _ (List.mem_of_getElem? (i := 2) rfl)))))))))) rfl rfl rfl dX8_sieve_126 ?_
        refine call_i (run_V (a := ea E 0) (As := [.int (iI (a4)), .ref (ea E 18)]) (rest := []) ⟨hx, hb, hml, hown, hts⟩ (ctX8_settleRow l E tp a4 18 sL _ ha4 (by decide) hm.2.2 h) (cwV 2 hts gX8_sieve_X8_settleRow rfl rfl rfl ⟨rfl, hdX8_settleRow⟩ ⟨Nat.le_of_ble_eq_true rfl, Nat.le_of_ble_eq_true rfl⟩) hK hN hg (recv_x (ci := 8) (C := RX8) (T := TX8) (N := 14) hg hK (by decide) rfl (by decide) rfl) rfl hl.1 rfl (cat_sum _ (by simp)) dX8_sieve_129 (show (sz sL - sz σ) + (tp - sz sL) ≤ tp - sz σ ∧ 9 * (sz sL - sz σ) + 9 * (tp - sz sL) ≤ 9 * (tp - sz σ) by have q1 := hm.2.1; have q2 := hm.2.2; omega)) hg (fun r42 s41 H locs hz43 hm2 h hg => ?_)
        have hm := hm.ta hm2
        refine W_narrow hg hH (show sz s41 ≤ sz σ + (sz s41 - sz σ) by have q1 := hm.2.1; omega) (Nat.le_refl _) ?_
        refine W.widen (k := tp - sz σ) (n := 9 * (tp - sz σ)) (show sz s41 - sz σ ≤ _ by have q1 := hm.2.2; omega) (show 9 * (sz s41 - sz σ) ≤ _ by have q1 := hm.2.2; omega) ?_
        exact ret_i hx hb hr hlocks hg hz43 hm h dX8_sieve_132
      · have h := h.2 c40
        refine lv_aload_n hx hb dX8_sieve_71 rfl (lv_at hl 0 rfl) ?_
        refine q_getx (ci := 8) (C := RX8) (T := TX8) (N := 14) (j := 15) hx hb hts (fun _ h9 => List.mem_cons_of_mem _ (List.mem_append_left _ (List.mem_append_left _ (List.mem_append_left _ (List.mem_append_left _ (List.mem_append_left _ (List.mem_append_right _ h9))))))) hown hK hg 0 (by decide) rfl rfl (by decide) rfl 8 (by decide) (hts (.fieldLink RX8 68 "JoinMaps" "first" "LJoinMaps$Row;") (List.mem_cons_of_mem _ (List.mem_append_left _ (List.mem_append_left _ (List.mem_append_left _ (List.mem_append_left _ (List.mem_append_left _ (List.mem_append_left _ (List.mem_append_left _ (List.mem_of_getElem? (i := 0) rfl)))))))))) rfl rfl rfl dX8_sieve_72 ?_
        refine lv_iload hx hb dX8_sieve_75 (lv_at hl 4 rfl) ?_
        refine call_i (run_V (a := ea E 15) (As := [.int (iI (v5))]) (rest := []) ⟨hx, hb, hml, hown, hts⟩ (ctX6_keyAt l E 15 v5 sL _ (by decide) hR39 h) (cwV 1 hts gX8_sieve_X6_keyAt rfl rfl rfl ⟨rfl, hdX6_keyAt⟩ ⟨Nat.le_of_ble_eq_true rfl, Nat.le_of_ble_eq_true rfl⟩) hK hN hg (recv_x (ci := 6) (C := RX6) (T := TX6) (N := 3) hg hK (by decide) rfl (by decide) rfl) rfl hl.1 rfl (cat_sum _ (by simp)) dX8_sieve_77 (show (sz sL - sz σ) + 0 ≤ tp - sz σ ∧ 9 * (sz sL - sz σ) + 0 ≤ 9 * (tp - sz σ) by have q1 := hm.2.1; have q2 := hm.2.2; omega)) hg (fun r45 s44 H locs hz46 hm2 h hg => ?_)
        have hm := hm.tn hm2
        refine W_narrow hg hH (show sz s44 ≤ sz σ + (sz s44 - sz σ) by have q1 := hm.2.1; omega) (Nat.le_refl _) ?_
        refine lv_istore (i := 6) (lv' := [(6, .int (iI (r45))), (0, .ref (ea E 0)), (2, .int (iI (a2))), (3, .int (iI (a3))), (4, .int (iI (a4))), (5, .int (iI (v5)))]) hx hb dX8_sieve_80 hl (by decide) rfl (fun ls hl => ?_)
        refine lv_aload_n hx hb dX8_sieve_82 rfl (lv_at hl 1 rfl) ?_
        refine q_getx (ci := 8) (C := RX8) (T := TX8) (N := 14) (j := 15) hx hb hts (fun _ h9 => List.mem_cons_of_mem _ (List.mem_append_left _ (List.mem_append_left _ (List.mem_append_left _ (List.mem_append_left _ (List.mem_append_left _ (List.mem_append_right _ h9))))))) hown hK hg 0 (by decide) rfl rfl (by decide) rfl 8 (by decide) (hts (.fieldLink RX8 68 "JoinMaps" "first" "LJoinMaps$Row;") (List.mem_cons_of_mem _ (List.mem_append_left _ (List.mem_append_left _ (List.mem_append_left _ (List.mem_append_left _ (List.mem_append_left _ (List.mem_append_left _ (List.mem_append_left _ (List.mem_of_getElem? (i := 0) rfl)))))))))) rfl rfl rfl dX8_sieve_83 ?_
        refine lv_iload hx hb dX8_sieve_86 (lv_at hl 5 rfl) ?_
        refine call_i (run_V (a := ea E 15) (As := [.int (iI (v5))]) (rest := []) ⟨hx, hb, hml, hown, hts⟩ (ctX6_valueAt l E 15 v5 s44 _ (by decide) hR39 h) (cwV 1 hts gX8_sieve_X6_valueAt rfl rfl rfl ⟨rfl, hdX6_valueAt⟩ ⟨Nat.le_of_ble_eq_true rfl, Nat.le_of_ble_eq_true rfl⟩) hK hN hg (recv_x (ci := 6) (C := RX6) (T := TX6) (N := 3) hg hK (by decide) rfl (by decide) rfl) rfl hl.1 rfl (cat_sum _ (by simp)) dX8_sieve_88 (show (sz s44 - sz σ) + 0 ≤ tp - sz σ ∧ 9 * (sz s44 - sz σ) + 0 ≤ 9 * (tp - sz σ) by have q1 := hm.2.1; have q2 := hm.2.2; omega)) hg (fun r48 s47 H locs hz49 hm2 h hg => ?_)
        have hm := hm.tn hm2
        refine W_narrow hg hH (show sz s47 ≤ sz σ + (sz s47 - sz σ) by have q1 := hm.2.1; omega) (Nat.le_refl _) ?_
        refine lv_istore (i := 7) (lv' := [(7, .int (iI (r48))), (6, .int (iI (r45))), (0, .ref (ea E 0)), (2, .int (iI (a2))), (3, .int (iI (a3))), (4, .int (iI (a4))), (5, .int (iI (v5)))]) hx hb dX8_sieve_91 hl (by decide) rfl (fun ls hl => ?_)
        refine lv_iload_n hx hb dX8_sieve_93 rfl (lv_at hl 3 rfl) ?_
        refine lv_iload_n hx hb dX8_sieve_94 rfl (lv_at hl 4 rfl) ?_
        refine lv_iload hx hb dX8_sieve_95 (lv_at hl 1 rfl) ?_
        refine lv_iload hx hb dX8_sieve_97 (lv_at hl 0 rfl) ?_
        refine call_z (run_S (As := [.int (iI (a2)), .int (iI (a3)), .int (iI (r45)), .int (iI (r48))]) (rest := []) ⟨hx, hb, hml, hown, hts⟩ (ctX8_passes l E a2 a3 r45 r48 s47 _ ha2 ha3 hz46 hz49 h) (va_cwS 4 hts gX8_sieve_X8_passes rfl rfl rfl hdX8_passes ⟨Nat.le_of_ble_eq_true rfl, Nat.le_of_ble_eq_true rfl⟩) hK hN hg rfl hl.1 rfl (cat_sum _ (by simp)) dX8_sieve_99 (show (sz s47 - sz σ) + 0 ≤ tp - sz σ ∧ 9 * (sz s47 - sz σ) + 0 ≤ 9 * (tp - sz σ) by have q1 := hm.2.1; have q2 := hm.2.2; omega)) hg (fun r51 s50 H locs hz52 hm2 h hg => ?_)
        have hm := hm.tn hm2
        refine W_narrow hg hH (show sz s50 ≤ sz σ + (sz s50 - sz σ) by have q1 := hm.2.1; omega) (Nat.le_refl _) ?_
        refine k_eq (tgt := 116) hx hb dX8_sieve_102 (by decide) (z_R hz52) (fun c53 => ?_) (fun c53 => ?_)
        · have h := h.1 c53
          refine lv_iinc (v := iI (v5 + 1)) (lv' := [(5, .int (iI (v5 + 1))), (7, .int (iI (r48))), (6, .int (iI (r45))), (0, .ref (ea E 0)), (2, .int (iI (a2))), (3, .int (iI (a3))), (4, .int (iI (a4)))]) hx hb dX8_sieve_116 hl (k := 6) rfl (iI_add _ _) (by decide) rfl (fun ls hl => ?_)
          refine lv_goto (tgt := 59) hx hb dX8_sieve_119 (by decide) ?_
          exact ih (v5 + 1) (s50) _ _ _ hg hm (lv_sub hl [3, 4, 5, 6, 0] rfl) h
        · have h := h.2 c53
          refine lv_aload_n hx hb dX8_sieve_105 rfl (lv_at hl 2 rfl) ?_
          refine q_getx (ci := 8) (C := RX8) (T := TX8) (N := 14) (j := 18) hx hb hts (fun _ h9 => List.mem_cons_of_mem _ (List.mem_append_left _ (List.mem_append_left _ (List.mem_append_left _ (List.mem_append_left _ (List.mem_append_left _ (List.mem_append_right _ h9))))))) hown hK hg 0 (by decide) rfl rfl (by decide) rfl 9 (by decide) (hts (.fieldLink RX8 72 "JoinMaps" "second" "LJoinMaps$Row;") (List.mem_cons_of_mem _ (List.mem_append_left _ (List.mem_append_left _ (List.mem_append_left _ (List.mem_append_left _ (List.mem_append_left _ (List.mem_append_left _ (List.mem_append_left _ (List.mem_of_getElem? (i := 2) rfl)))))))))) rfl rfl rfl dX8_sieve_106 ?_
          refine lv_iload hx hb dX8_sieve_109 (lv_at hl 1 rfl) ?_
          refine lv_iload hx hb dX8_sieve_111 (lv_at hl 0 rfl) ?_
          refine call_v (run_V (a := ea E 18) (As := [.int (iI (r45)), .int (iI (r48))]) (rest := []) ⟨hx, hb, hml, hown, hts⟩ (ctX6_add l E 18 r45 r48 s50 _ (by decide) hz46 hz49 h) (cwV 2 hts gX8_sieve_X6_add rfl rfl rfl ⟨rfl, hdX6_add⟩ ⟨Nat.le_of_ble_eq_true rfl, Nat.le_of_ble_eq_true rfl⟩) hK hN hg (recv_x (ci := 6) (C := RX6) (T := TX6) (N := 3) hg hK (by decide) rfl (by decide) rfl) rfl hl.1 rfl (cat_sum _ (by simp)) dX8_sieve_113 (show (sz s50 - sz σ) + 0 ≤ tp - sz σ ∧ 9 * (sz s50 - sz σ) + 0 ≤ 9 * (tp - sz σ) by have q1 := hm.2.1; have q2 := hm.2.2; omega)) hg (fun s54 H locs hm2 h hg => ?_)
          have hm := hm.tn hm2
          refine W_narrow hg hH (show sz s54 ≤ sz σ + (sz s54 - sz σ) by have q1 := hm.2.1; omega) (Nat.le_refl _) ?_
          refine lv_iinc (v := iI (v5 + 1)) (lv' := [(5, .int (iI (v5 + 1))), (7, .int (iI (r48))), (6, .int (iI (r45))), (0, .ref (ea E 0)), (2, .int (iI (a2))), (3, .int (iI (a3))), (4, .int (iI (a4)))]) hx hb dX8_sieve_116 hl (k := 6) rfl (iI_add _ _) (by decide) rfl (fun ls hl => ?_)
          refine lv_goto (tgt := 59) hx hb dX8_sieve_119 (by decide) ?_
          exact ih (v5 + 1) (s54) _ _ _ hg hm (lv_sub hl [3, 4, 5, 6, 0] rfl) h
  refine lv_iload_n hx hb dX8_sieve_0 rfl (lv_at hl 1 rfl) ?_
  refine call_z (run_S (As := [.int (iI (a1))]) (rest := []) ⟨hx, hb, hml, hown, hts⟩ (ctX8_isMap l E a1 σ _ ha1 h) (va_cwS 1 hts gX8_sieve_X8_isMap rfl rfl rfl hdX8_isMap ⟨Nat.le_of_ble_eq_true rfl, Nat.le_of_ble_eq_true rfl⟩) hK hN hg rfl hl.1 rfl (cat_sum _ (by simp)) dX8_sieve_1 (show (sz σ - sz σ) + 0 ≤ tp - sz σ ∧ 9 * (sz σ - sz σ) + 0 ≤ 9 * (tp - sz σ) by have q1 := hm.2.1; have q2 := hm.2.2; omega)) hg (fun r2 s1 H locs hz3 hm2 h hg => ?_)
  have hm := hm.tn hm2
  refine W_narrow hg hH (show sz s1 ≤ sz σ + (sz s1 - sz σ) by have q1 := hm.2.1; omega) (Nat.le_refl _) ?_
  refine k_eq (tgt := 31) hx hb dX8_sieve_4 (by decide) (z_R hz3) (fun c4 => ?_) (fun c4 => ?_)
  · have h := h.1 c4
    refine lv_aload_n hx hb dX8_sieve_31 rfl (lv_at hl 0 rfl) ?_
    refine call_i (run_V (a := ea E 0) (As := []) (rest := []) ⟨hx, hb, hml, hown, hts⟩ (ctX8_bad l E  s1 _  h) (cwV 0 hts gX8_sieve_X8_bad rfl rfl rfl ⟨rfl, hdX8_bad⟩ ⟨Nat.le_of_ble_eq_true rfl, Nat.le_of_ble_eq_true rfl⟩) hK hN hg (recv_x (ci := 8) (C := RX8) (T := TX8) (N := 14) hg hK (by decide) rfl (by decide) rfl) rfl hl.1 rfl (cat_sum _ (by simp)) dX8_sieve_32 (show (sz s1 - sz σ) + 0 ≤ tp - sz σ ∧ 9 * (sz s1 - sz σ) + 0 ≤ 9 * (tp - sz σ) by have q1 := hm.2.1; have q2 := hm.2.2; omega)) hg (fun r6 s5 H locs hz7 hm2 h hg => ?_)
    have hm := hm.tn hm2
    refine W_narrow hg hH (show sz s5 ≤ sz σ + (sz s5 - sz σ) by have q1 := hm.2.1; omega) (Nat.le_refl _) ?_
    refine W.widen (k := tp - sz σ) (n := 9 * (tp - sz σ)) (show sz s5 - sz σ ≤ _ by have q1 := hm.2.2; omega) (show 9 * (sz s5 - sz σ) ≤ _ by have q1 := hm.2.2; omega) ?_
    exact ret_i hx hb hr hlocks hg hz7 hm h dX8_sieve_35
  · have h := h.2 c4
    refine lv_iload_n hx hb dX8_sieve_7 rfl (lv_at hl 2 rfl) ?_
    refine lv_iconst (v := iI 0) hx hb dX8_sieve_8 (by decide) ?_
    refine lv_iconst (v := iI 4) hx hb dX8_sieve_9 (by decide) ?_
    refine call_z (run_S (As := [.int (iI (a2)), .int (iI (0)), .int (iI (4))]) (rest := []) ⟨hx, hb, hml, hown, hts⟩ (ctX8_isIn l E a2 0 4 s1 _ ha2 (by decide) (by decide) h) (va_cwS 3 hts gX8_sieve_X8_isIn rfl rfl rfl hdX8_isIn ⟨Nat.le_of_ble_eq_true rfl, Nat.le_of_ble_eq_true rfl⟩) hK hN hg rfl hl.1 rfl (cat_sum _ (by simp)) dX8_sieve_10 (show (sz s1 - sz σ) + 0 ≤ tp - sz σ ∧ 9 * (sz s1 - sz σ) + 0 ≤ 9 * (tp - sz σ) by have q1 := hm.2.1; have q2 := hm.2.2; omega)) hg (fun r9 s8 H locs hz10 hm2 h hg => ?_)
    have hm := hm.tn hm2
    refine W_narrow hg hH (show sz s8 ≤ sz σ + (sz s8 - sz σ) by have q1 := hm.2.1; omega) (Nat.le_refl _) ?_
    refine k_eq (tgt := 31) hx hb dX8_sieve_13 (by decide) (z_R hz10) (fun c11 => ?_) (fun c11 => ?_)
    · have h := h.1 c11
      refine lv_aload_n hx hb dX8_sieve_31 rfl (lv_at hl 0 rfl) ?_
      refine call_i (run_V (a := ea E 0) (As := []) (rest := []) ⟨hx, hb, hml, hown, hts⟩ (ctX8_bad l E  s8 _  h) (cwV 0 hts gX8_sieve_X8_bad rfl rfl rfl ⟨rfl, hdX8_bad⟩ ⟨Nat.le_of_ble_eq_true rfl, Nat.le_of_ble_eq_true rfl⟩) hK hN hg (recv_x (ci := 8) (C := RX8) (T := TX8) (N := 14) hg hK (by decide) rfl (by decide) rfl) rfl hl.1 rfl (cat_sum _ (by simp)) dX8_sieve_32 (show (sz s8 - sz σ) + 0 ≤ tp - sz σ ∧ 9 * (sz s8 - sz σ) + 0 ≤ 9 * (tp - sz σ) by have q1 := hm.2.1; have q2 := hm.2.2; omega)) hg (fun r13 s12 H locs hz14 hm2 h hg => ?_)
      have hm := hm.tn hm2
      refine W_narrow hg hH (show sz s12 ≤ sz σ + (sz s12 - sz σ) by have q1 := hm.2.1; omega) (Nat.le_refl _) ?_
      refine W.widen (k := tp - sz σ) (n := 9 * (tp - sz σ)) (show sz s12 - sz σ ≤ _ by have q1 := hm.2.2; omega) (show 9 * (sz s12 - sz σ) ≤ _ by have q1 := hm.2.2; omega) ?_
      exact ret_i hx hb hr hlocks hg hz14 hm h dX8_sieve_35
    · have h := h.2 c11
      refine lv_iload_n hx hb dX8_sieve_16 rfl (lv_at hl 3 rfl) ?_
      refine call_z (run_S (As := [.int (iI (a3))]) (rest := []) ⟨hx, hb, hml, hown, hts⟩ (ctX8_isValue l E a3 s8 _ ha3 h) (va_cwS 1 hts gX8_sieve_X8_isValue rfl rfl rfl hdX8_isValue ⟨Nat.le_of_ble_eq_true rfl, Nat.le_of_ble_eq_true rfl⟩) hK hN hg rfl hl.1 rfl (cat_sum _ (by simp)) dX8_sieve_17 (show (sz s8 - sz σ) + 0 ≤ tp - sz σ ∧ 9 * (sz s8 - sz σ) + 0 ≤ 9 * (tp - sz σ) by have q1 := hm.2.1; have q2 := hm.2.2; omega)) hg (fun r16 s15 H locs hz17 hm2 h hg => ?_)
      have hm := hm.tn hm2
      refine W_narrow hg hH (show sz s15 ≤ sz σ + (sz s15 - sz σ) by have q1 := hm.2.1; omega) (Nat.le_refl _) ?_
      refine k_eq (tgt := 31) hx hb dX8_sieve_20 (by decide) (z_R hz17) (fun c18 => ?_) (fun c18 => ?_)
      · have h := h.1 c18
        refine lv_aload_n hx hb dX8_sieve_31 rfl (lv_at hl 0 rfl) ?_
        refine call_i (run_V (a := ea E 0) (As := []) (rest := []) ⟨hx, hb, hml, hown, hts⟩ (ctX8_bad l E  s15 _  h) (cwV 0 hts gX8_sieve_X8_bad rfl rfl rfl ⟨rfl, hdX8_bad⟩ ⟨Nat.le_of_ble_eq_true rfl, Nat.le_of_ble_eq_true rfl⟩) hK hN hg (recv_x (ci := 8) (C := RX8) (T := TX8) (N := 14) hg hK (by decide) rfl (by decide) rfl) rfl hl.1 rfl (cat_sum _ (by simp)) dX8_sieve_32 (show (sz s15 - sz σ) + 0 ≤ tp - sz σ ∧ 9 * (sz s15 - sz σ) + 0 ≤ 9 * (tp - sz σ) by have q1 := hm.2.1; have q2 := hm.2.2; omega)) hg (fun r20 s19 H locs hz21 hm2 h hg => ?_)
        have hm := hm.tn hm2
        refine W_narrow hg hH (show sz s19 ≤ sz σ + (sz s19 - sz σ) by have q1 := hm.2.1; omega) (Nat.le_refl _) ?_
        refine W.widen (k := tp - sz σ) (n := 9 * (tp - sz σ)) (show sz s19 - sz σ ≤ _ by have q1 := hm.2.2; omega) (show 9 * (sz s19 - sz σ) ≤ _ by have q1 := hm.2.2; omega) ?_
        exact ret_i hx hb hr hlocks hg hz21 hm h dX8_sieve_35
      · have h := h.2 c18
        refine lv_iload hx hb dX8_sieve_23 (lv_at hl 4 rfl) ?_
        refine call_z (run_S (As := [.int (iI (a4))]) (rest := []) ⟨hx, hb, hml, hown, hts⟩ (ctX8_isMap l E a4 s15 _ ha4 h) (va_cwS 1 hts gX8_sieve_X8_isMap rfl rfl rfl hdX8_isMap ⟨Nat.le_of_ble_eq_true rfl, Nat.le_of_ble_eq_true rfl⟩) hK hN hg rfl hl.1 rfl (cat_sum _ (by simp)) dX8_sieve_25 (show (sz s15 - sz σ) + 0 ≤ tp - sz σ ∧ 9 * (sz s15 - sz σ) + 0 ≤ 9 * (tp - sz σ) by have q1 := hm.2.1; have q2 := hm.2.2; omega)) hg (fun r23 s22 H locs hz24 hm2 h hg => ?_)
        have hm := hm.tn hm2
        refine W_narrow hg hH (show sz s22 ≤ sz σ + (sz s22 - sz σ) by have q1 := hm.2.1; omega) (Nat.le_refl _) ?_
        refine k_ne (tgt := 36) hx hb dX8_sieve_28 (by decide) (z_R hz24) (fun c25 => ?_) (fun c25 => ?_)
        · have h := h.1 c25
          refine lv_aload_n hx hb dX8_sieve_36 rfl (lv_at hl 0 rfl) ?_
          refine q_getx (ci := 8) (C := RX8) (T := TX8) (N := 14) (j := 15) hx hb hts (fun _ h9 => List.mem_cons_of_mem _ (List.mem_append_left _ (List.mem_append_left _ (List.mem_append_left _ (List.mem_append_left _ (List.mem_append_left _ (List.mem_append_right _ h9))))))) hown hK hg 0 (by decide) rfl rfl (by decide) rfl 8 (by decide) (hts (.fieldLink RX8 68 "JoinMaps" "first" "LJoinMaps$Row;") (List.mem_cons_of_mem _ (List.mem_append_left _ (List.mem_append_left _ (List.mem_append_left _ (List.mem_append_left _ (List.mem_append_left _ (List.mem_append_left _ (List.mem_append_left _ (List.mem_of_getElem? (i := 0) rfl)))))))))) rfl rfl rfl dX8_sieve_37 ?_
          refine lv_aload_n hx hb dX8_sieve_40 rfl (lv_at hl 0 rfl) ?_
          refine q_getx (ci := 8) (C := RX8) (T := TX8) (N := 14) (j := 3) hx hb hts (fun _ h9 => List.mem_cons_of_mem _ (List.mem_append_left _ (List.mem_append_left _ (List.mem_append_left _ (List.mem_append_left _ (List.mem_append_left _ (List.mem_append_right _ h9))))))) hown hK hg 0 (by decide) rfl rfl (by decide) rfl 2 (by decide) (hts (.fieldLink RX8 27 "JoinMaps" "maps" "[LJoinMaps$Node;") (List.mem_cons_of_mem _ (List.mem_append_left _ (List.mem_append_left _ (List.mem_append_left _ (List.mem_append_left _ (List.mem_append_left _ (List.mem_append_left _ (List.mem_append_left _ (List.mem_of_getElem? (i := 1) rfl)))))))))) rfl rfl rfl dX8_sieve_41 ?_
          refine lv_iload_n hx hb dX8_sieve_44 rfl (lv_at hl 1 rfl) ?_
          obtain ⟨hP26, hP27, h⟩ := h
          refine q_aald (N := 6) hx hb hK hg 3 (by decide) rfl rfl hP26 hP27 (by decide) dX8_sieve_45 ?_
          have hS28 : ∀ b, (sf s22 3 (a1 : Int).toNat) = some b → sS s22 b := fun b h0 => GS_F hg h0
          refine call_v (run_V (a := ea E 15) (As := [va_rf ((sf s22 3 (a1 : Int).toNat))]) (rest := []) ⟨hx, hb, hml, hown, hts⟩ (ctX6_take l E 15 (sf s22 3 (a1 : Int).toNat) s22 _ (by decide) hS28 h) (cwV 1 hts gX8_sieve_X6_take rfl rfl rfl ⟨rfl, hdX6_take⟩ ⟨Nat.le_of_ble_eq_true rfl, Nat.le_of_ble_eq_true rfl⟩) hK hN hg (recv_x (ci := 6) (C := RX6) (T := TX6) (N := 3) hg hK (by decide) rfl (by decide) rfl) rfl hl.1 rfl (cat_sum _ (by simp)) dX8_sieve_46 (show (sz s22 - sz σ) + 0 ≤ tp - sz σ ∧ 9 * (sz s22 - sz σ) + 0 ≤ 9 * (tp - sz σ) by have q1 := hm.2.1; have q2 := hm.2.2; omega)) hg (fun s29 H locs hm2 h hg => ?_)
          have hm := hm.tn hm2
          refine W_narrow hg hH (show sz s29 ≤ sz σ + (sz s29 - sz σ) by have q1 := hm.2.1; omega) (Nat.le_refl _) ?_
          refine lv_aload_n hx hb dX8_sieve_49 rfl (lv_at hl 0 rfl) ?_
          refine q_getx (ci := 8) (C := RX8) (T := TX8) (N := 14) (j := 18) hx hb hts (fun _ h9 => List.mem_cons_of_mem _ (List.mem_append_left _ (List.mem_append_left _ (List.mem_append_left _ (List.mem_append_left _ (List.mem_append_left _ (List.mem_append_right _ h9))))))) hown hK hg 0 (by decide) rfl rfl (by decide) rfl 9 (by decide) (hts (.fieldLink RX8 72 "JoinMaps" "second" "LJoinMaps$Row;") (List.mem_cons_of_mem _ (List.mem_append_left _ (List.mem_append_left _ (List.mem_append_left _ (List.mem_append_left _ (List.mem_append_left _ (List.mem_append_left _ (List.mem_append_left _ (List.mem_of_getElem? (i := 2) rfl)))))))))) rfl rfl rfl dX8_sieve_50 ?_
          refine call_v (run_V (a := ea E 18) (As := []) (rest := []) ⟨hx, hb, hml, hown, hts⟩ (ctX6_empty l E 18 s29 _ (by decide) h) (cwV 0 hts gX8_sieve_X6_empty rfl rfl rfl ⟨rfl, hdX6_empty⟩ ⟨Nat.le_of_ble_eq_true rfl, Nat.le_of_ble_eq_true rfl⟩) hK hN hg (recv_x (ci := 6) (C := RX6) (T := TX6) (N := 3) hg hK (by decide) rfl (by decide) rfl) rfl hl.1 rfl (cat_sum _ (by simp)) dX8_sieve_53 (show (sz s29 - sz σ) + 0 ≤ tp - sz σ ∧ 9 * (sz s29 - sz σ) + 0 ≤ 9 * (tp - sz σ) by have q1 := hm.2.1; have q2 := hm.2.2; omega)) hg (fun s32 H locs hm2 h hg => ?_)
          have hm := hm.tn hm2
          refine W_narrow hg hH (show sz s32 ≤ sz σ + (sz s32 - sz σ) by have q1 := hm.2.1; omega) (Nat.le_refl _) ?_
          refine lv_iconst (v := iI 0) hx hb dX8_sieve_56 (by decide) ?_
          refine lv_istore (i := 5) (lv' := [(5, .int (iI (0))), (0, .ref (ea E 0)), (1, .int (iI (a1))), (2, .int (iI (a2))), (3, .int (iI (a3))), (4, .int (iI (a4)))]) hx hb dX8_sieve_57 hl (by decide) rfl (fun ls hl => ?_)
          obtain ⟨kk, h⟩ := h
          exact J59  kk (0) (s32) _ _ _ hg hm (lv_sub hl [1, 3, 4, 5, 0] rfl) h
        · have h := h.2 c25
          refine lv_aload_n hx hb dX8_sieve_31 rfl (lv_at hl 0 rfl) ?_
          refine call_i (run_V (a := ea E 0) (As := []) (rest := []) ⟨hx, hb, hml, hown, hts⟩ (ctX8_bad l E  s22 _  h) (cwV 0 hts gX8_sieve_X8_bad rfl rfl rfl ⟨rfl, hdX8_bad⟩ ⟨Nat.le_of_ble_eq_true rfl, Nat.le_of_ble_eq_true rfl⟩) hK hN hg (recv_x (ci := 8) (C := RX8) (T := TX8) (N := 14) hg hK (by decide) rfl (by decide) rfl) rfl hl.1 rfl (cat_sum _ (by simp)) dX8_sieve_32 (show (sz s22 - sz σ) + 0 ≤ tp - sz σ ∧ 9 * (sz s22 - sz σ) + 0 ≤ 9 * (tp - sz σ) by have q1 := hm.2.1; have q2 := hm.2.2; omega)) hg (fun r36 s35 H locs hz37 hm2 h hg => ?_)
          have hm := hm.tn hm2
          refine W_narrow hg hH (show sz s35 ≤ sz σ + (sz s35 - sz σ) by have q1 := hm.2.1; omega) (Nat.le_refl _) ?_
          refine W.widen (k := tp - sz σ) (n := 9 * (tp - sz σ)) (show sz s35 - sz σ ≤ _ by have q1 := hm.2.2; omega) (show 9 * (sz s35 - sz σ) ≤ _ by have q1 := hm.2.2; omega) ?_
          exact ret_i hx hb hr hlocks hg hz37 hm h dX8_sieve_35
theorem hdX8_raise : yX8_raise.cls ≠ "java/lang/invoke/MethodHandle" ∧ yX8_raise.cls ≠ "java/lang/invoke/VarHandle" ∧ (parseMethodDescriptor yX8_raise.desc).map (fun d => d.parameters.length) = some 4 := by decide +kernel
set_option maxRecDepth 100000 in
set_option maxHeartbeats 4000000 in
theorem ctX8_raise (l : Launch) (E : Ev) (tp : Nat) (a1 : Int) (a2 : Int) (a3 : Int) (a4 : Int) (σ : SS) (Q : Int → SS → Prop) (ha1 : R32 a1) (ha2 : R32 a2) (ha3 : R32 a3) (ha4 : R32 a4) (ht : sz σ ≤ tp) (h : wX8_raise tp a1 a2 a3 a4 σ Q) : Met l yX8_raise wsX8_raise ({ frames := 95, cells := tp - sz σ, slots := 9 * (tp - sz σ), locals := 2565 } : Room) (Pc E σ [.ref (ea E 0), .int (iI (a1)), .int (iI (a2)), .int (iI (a3)), .int (iI (a4))]) (Qi E tp σ Q) (tp - sz σ) (9 * (tp - sz σ)) (Av E) := by
  rw [wX8_raise] at h
  refine Met.ofW (cc := cX8_raise) (maxL := 8) (ret := (some .int)) (by decide) rfl ?_
  intro p e s m args below meth c s₁ B hml hv
  obtain ⟨rfl, hH, hK, hN⟩ := hv
  have hx := B.exec
  have hb := B.bytes
  have hr := B.returns
  have hts := atoms_spec (ws := wsX8_raise) B.pre
  have hown : s.vm.findClass RX8 = some m.cls := findClass_of_methodNamed B.named
  have hlocks := B.notSynchronized
  have hg : GS E σ s s.heap [] := ⟨hH, va_S.rf⟩
  have hm : Mo tp σ σ := Mo.rf ht
  have hl := ent (vs := [.ref (ea E 0), .int (iI (a1)), .int (iI (a2)), .int (iI (a3)), .int (iI (a4))]) (n := 8) (cats_x (cats_i (cats_i (cats_i (cats_i cats_nil))))) (Nat.le_of_ble_eq_true rfl)
  rw [lg_entry_eq]
  generalize (lg_sl ([.ref (ea E 0), .int (iI (a1)), .int (iI (a2)), .int (iI (a3)), .int (iI (a4))]) ++ List.replicate (8 - (lg_sl ([.ref (ea E 0), .int (iI (a1)), .int (iI (a2)), .int (iI (a3)), .int (iI (a4))])).length) Slot.unset).toArray = ls at hl ⊢
  have hl : lv_has ls 8 [(0, .ref (ea E 0)), (1, .int (iI (a1))), (2, .int (iI (a2))), (3, .int (iI (a3))), (4, .int (iI (a4)))] := hl
  refine W_narrow hg hH (show sz σ ≤ sz σ + (sz σ - sz σ) by omega) (show 9 * (sz σ - sz σ) ≤ 9 * (sz σ - sz σ) from Nat.le_refl _) ?_
  have J57 : ∀ (k : Nat), ∀ (v5 : Int) (sL : SS) (H : Heap) (locs : List Loc) (ls : Array Slot), GS E sL s H locs → Mo tp σ sL → lv_has ls 8 [(0, .ref (ea E 0)), (1, .int (iI (a1))), (2, .int (iI (a2))), (3, .int (iI (a3))), (4, .int (iI (a4))), (5, .int (iI (v5)))] → wX8_raise_L57 tp a1 a2 a3 a4 Q  k v5 sL → W p l e (headSpec wsX8_raise ({ frames := 95, cells := tp - sz σ, slots := 9 * (tp - sz σ), locals := 2565 } : Room)).room s m (List.toArray [.ref (ea E 0), .int (iI (a1)), .int (iI (a2)), .int (iI (a3)), .int (iI (a4))]) below meth c H locs (sz sL - sz σ) (9 * (sz sL - sz σ)) (MQ below (Qi E tp σ Q) (List.toArray [.ref (ea E 0), .int (iI (a1)), .int (iI (a2)), .int (iI (a3)), .int (iI (a4))]) s (tp - sz σ) (9 * (tp - sz σ)) (Av E)) (F0 m 57 ls []) := by
    intro k
    induction k with
    | zero => intro v5 sL H locs ls hg hm hl h; exact False.elim h
    | succ k ih =>
      intro v5 sL H locs ls hg hm hl h
      rw [wX8_raise_L57] at h
      refine lv_iload hx hb dX8_raise_57 (lv_at hl 5 rfl) ?_
      refine lv_aload_n hx hb dX8_raise_59 rfl (lv_at hl 0 rfl) ?_
      refine q_getx (ci := 8) (C := RX8) (T := TX8) (N := 14) (j := 15) hx hb hts (fun _ h9 => List.mem_cons_of_mem _ (List.mem_append_left _ (List.mem_append_left _ (List.mem_append_left _ (List.mem_append_left _ (List.mem_append_left _ (List.mem_append_right _ h9))))))) hown hK hg 0 (by decide) rfl rfl (by decide) rfl 8 (by decide) (hts (.fieldLink RX8 68 "JoinMaps" "first" "LJoinMaps$Row;") (List.mem_cons_of_mem _ (List.mem_append_left _ (List.mem_append_left _ (List.mem_append_left _ (List.mem_append_left _ (List.mem_append_left _ (List.mem_append_left _ (List.mem_append_left _ (List.mem_of_getElem? (i := 0) rfl)))))))))) rfl rfl rfl dX8_raise_60 ?_
      refine q_geti (ci := 6) (C := RX6) (T := TX6) (N := 3) hx hb hts (fun _ h9 => List.mem_cons_of_mem _ (List.mem_append_left _ (List.mem_append_left _ (List.mem_append_left _ (List.mem_append_left _ (List.mem_append_right _ h9)))))) hown hK hg 15 (by decide) rfl rfl (by decide) rfl 2 (by decide) (hts (.fieldLink RX8 153 "JoinMaps$Row" "length" "I") (List.mem_cons_of_mem _ (List.mem_append_left _ (List.mem_append_left _ (List.mem_append_left _ (List.mem_append_left _ (List.mem_append_left _ (List.mem_append_left _ (List.mem_append_left _ (List.mem_of_getElem? (i := 3) rfl)))))))))) rfl rfl dX8_raise_63 ?_
      have hR31 := GS_R hg 15 2
      obtain ⟨hR32, h⟩ := h
      refine j_ge (tgt := 129) hx hb dX8_raise_66 (by decide) hR32 hR31 (fun c33 => ?_) (fun c33 => ?_)
      · have h := h.1 c33
        refine lv_aload_n hx hb dX8_raise_129 rfl (lv_at hl 0 rfl) ?_
        refine lv_iload_n hx hb dX8_raise_130 rfl (lv_at hl 1 rfl) ?_
        refine lv_aload_n hx hb dX8_raise_131 rfl (lv_at hl 0 rfl) ?_
        refine q_getx (ci := 8) (C := RX8) (T := TX8) (N := 14) (j := 18) hx hb hts (fun _ h9 => List.mem_cons_of_mem _ (List.mem_append_left _ (List.mem_append_left _ (List.mem_append_left _ (List.mem_append_left _ (List.mem_append_left _ (List.mem_append_right _ h9))))))) hown hK hg 0 (by decide) rfl rfl (by decide) rfl 9 (by decide) (hts (.fieldLink RX8 72 "JoinMaps" "second" "LJoinMaps$Row;") (List.mem_cons_of_mem _ (List.mem_append_left _ (List.mem_append_left _ (List.mem_append_left _ (List.mem_append_left _ (List.mem_append_left _ (List.mem_append_left _ (List.mem_append_left _ (List.mem_of_getElem? (i := 2) rfl)))))))))) rfl rfl rfl dX8_raise_132 ?_
        refine call_i (run_V (a := ea E 0) (As := [.int (iI (a1)), .ref (ea E 18)]) (rest := []) ⟨hx, hb, hml, hown, hts⟩ (ctX8_settleRow l E tp a1 18 sL _ ha1 (by decide) hm.2.2 h) (cwV 2 hts gX8_raise_X8_settleRow rfl rfl rfl ⟨rfl, hdX8_settleRow⟩ ⟨Nat.le_of_ble_eq_true rfl, Nat.le_of_ble_eq_true rfl⟩) hK hN hg (recv_x (ci := 8) (C := RX8) (T := TX8) (N := 14) hg hK (by decide) rfl (by decide) rfl) rfl hl.1 rfl (cat_sum _ (by simp)) dX8_raise_135 (show (sz sL - sz σ) + (tp - sz sL) ≤ tp - sz σ ∧ 9 * (sz sL - sz σ) + 9 * (tp - sz sL) ≤ 9 * (tp - sz σ) by have q1 := hm.2.1; have q2 := hm.2.2; omega)) hg (fun r35 s34 H locs hz36 hm2 h hg => ?_)
        have hm := hm.ta hm2
        refine W_narrow hg hH (show sz s34 ≤ sz σ + (sz s34 - sz σ) by have q1 := hm.2.1; omega) (Nat.le_refl _) ?_
        refine lv_pop hx hb dX8_raise_138 rfl ?_
        refine lv_aload_n hx hb dX8_raise_139 rfl (lv_at hl 0 rfl) ?_
        refine q_getx (ci := 8) (C := RX8) (T := TX8) (N := 14) (j := 3) hx hb hts (fun _ h9 => List.mem_cons_of_mem _ (List.mem_append_left _ (List.mem_append_left _ (List.mem_append_left _ (List.mem_append_left _ (List.mem_append_left _ (List.mem_append_right _ h9))))))) hown hK hg 0 (by decide) rfl rfl (by decide) rfl 2 (by decide) (hts (.fieldLink RX8 27 "JoinMaps" "maps" "[LJoinMaps$Node;") (List.mem_cons_of_mem _ (List.mem_append_left _ (List.mem_append_left _ (List.mem_append_left _ (List.mem_append_left _ (List.mem_append_left _ (List.mem_append_left _ (List.mem_append_left _ (List.mem_of_getElem? (i := 1) rfl)))))))))) rfl rfl rfl dX8_raise_140 ?_
        refine lv_iload_n hx hb dX8_raise_143 rfl (lv_at hl 1 rfl) ?_
        obtain ⟨hP37, hP38, h⟩ := h
        refine q_aald (N := 6) hx hb hK hg 3 (by decide) rfl rfl hP37 hP38 (by decide) dX8_raise_144 ?_
        have hS39 : ∀ b, (sf s34 3 (a1 : Int).toNat) = some b → sS s34 b := fun b h0 => GS_F hg h0
        refine lv_iload_n hx hb dX8_raise_145 rfl (lv_at hl 2 rfl) ?_
        refine lv_iload_n hx hb dX8_raise_146 rfl (lv_at hl 3 rfl) ?_
        refine call_i (run_S (As := [va_rf ((sf s34 3 (a1 : Int).toNat)), .int (iI (a2)), .int (iI (a3))]) (rest := []) ⟨hx, hb, hml, hown, hts⟩ (ctX3_countWithin l E (sf s34 3 (a1 : Int).toNat) a2 a3 s34 _ hS39 ha2 ha3 h) (va_cwS 3 hts gX8_raise_X3_countWithin rfl rfl rfl hdX3_countWithin ⟨Nat.le_of_ble_eq_true rfl, Nat.le_of_ble_eq_true rfl⟩) hK hN hg rfl hl.1 rfl (cat_sum _ (by simp)) dX8_raise_147 (show (sz s34 - sz σ) + 0 ≤ tp - sz σ ∧ 9 * (sz s34 - sz σ) + 0 ≤ 9 * (tp - sz σ) by have q1 := hm.2.1; have q2 := hm.2.2; omega)) hg (fun r41 s40 H locs hz42 hm2 h hg => ?_)
        have hm := hm.tn hm2
        refine W_narrow hg hH (show sz s40 ≤ sz σ + (sz s40 - sz σ) by have q1 := hm.2.1; omega) (Nat.le_refl _) ?_
        refine W.widen (k := tp - sz σ) (n := 9 * (tp - sz σ)) (show sz s40 - sz σ ≤ _ by have q1 := hm.2.2; omega) (show 9 * (sz s40 - sz σ) ≤ _ by have q1 := hm.2.2; omega) ?_
        exact ret_i hx hb hr hlocks hg hz42 hm h dX8_raise_150
      · have h := h.2 c33
        refine lv_aload_n hx hb dX8_raise_69 rfl (lv_at hl 0 rfl) ?_
        refine q_getx (ci := 8) (C := RX8) (T := TX8) (N := 14) (j := 15) hx hb hts (fun _ h9 => List.mem_cons_of_mem _ (List.mem_append_left _ (List.mem_append_left _ (List.mem_append_left _ (List.mem_append_left _ (List.mem_append_left _ (List.mem_append_right _ h9))))))) hown hK hg 0 (by decide) rfl rfl (by decide) rfl 8 (by decide) (hts (.fieldLink RX8 68 "JoinMaps" "first" "LJoinMaps$Row;") (List.mem_cons_of_mem _ (List.mem_append_left _ (List.mem_append_left _ (List.mem_append_left _ (List.mem_append_left _ (List.mem_append_left _ (List.mem_append_left _ (List.mem_append_left _ (List.mem_of_getElem? (i := 0) rfl)))))))))) rfl rfl rfl dX8_raise_70 ?_
        refine lv_iload hx hb dX8_raise_73 (lv_at hl 5 rfl) ?_
        refine call_i (run_V (a := ea E 15) (As := [.int (iI (v5))]) (rest := []) ⟨hx, hb, hml, hown, hts⟩ (ctX6_keyAt l E 15 v5 sL _ (by decide) hR32 h) (cwV 1 hts gX8_raise_X6_keyAt rfl rfl rfl ⟨rfl, hdX6_keyAt⟩ ⟨Nat.le_of_ble_eq_true rfl, Nat.le_of_ble_eq_true rfl⟩) hK hN hg (recv_x (ci := 6) (C := RX6) (T := TX6) (N := 3) hg hK (by decide) rfl (by decide) rfl) rfl hl.1 rfl (cat_sum _ (by simp)) dX8_raise_75 (show (sz sL - sz σ) + 0 ≤ tp - sz σ ∧ 9 * (sz sL - sz σ) + 0 ≤ 9 * (tp - sz σ) by have q1 := hm.2.1; have q2 := hm.2.2; omega)) hg (fun r44 s43 H locs hz45 hm2 h hg => ?_)
        have hm := hm.tn hm2
        refine W_narrow hg hH (show sz s43 ≤ sz σ + (sz s43 - sz σ) by have q1 := hm.2.1; omega) (Nat.le_refl _) ?_
        refine lv_istore (i := 6) (lv' := [(6, .int (iI (r44))), (0, .ref (ea E 0)), (1, .int (iI (a1))), (2, .int (iI (a2))), (3, .int (iI (a3))), (4, .int (iI (a4))), (5, .int (iI (v5)))]) hx hb dX8_raise_78 hl (by decide) rfl (fun ls hl => ?_)
        refine lv_aload_n hx hb dX8_raise_80 rfl (lv_at hl 1 rfl) ?_
        refine q_getx (ci := 8) (C := RX8) (T := TX8) (N := 14) (j := 15) hx hb hts (fun _ h9 => List.mem_cons_of_mem _ (List.mem_append_left _ (List.mem_append_left _ (List.mem_append_left _ (List.mem_append_left _ (List.mem_append_left _ (List.mem_append_right _ h9))))))) hown hK hg 0 (by decide) rfl rfl (by decide) rfl 8 (by decide) (hts (.fieldLink RX8 68 "JoinMaps" "first" "LJoinMaps$Row;") (List.mem_cons_of_mem _ (List.mem_append_left _ (List.mem_append_left _ (List.mem_append_left _ (List.mem_append_left _ (List.mem_append_left _ (List.mem_append_left _ (List.mem_append_left _ (List.mem_of_getElem? (i := 0) rfl)))))))))) rfl rfl rfl dX8_raise_81 ?_
        refine lv_iload hx hb dX8_raise_84 (lv_at hl 6 rfl) ?_
        refine call_i (run_V (a := ea E 15) (As := [.int (iI (v5))]) (rest := []) ⟨hx, hb, hml, hown, hts⟩ (ctX6_valueAt l E 15 v5 s43 _ (by decide) hR32 h) (cwV 1 hts gX8_raise_X6_valueAt rfl rfl rfl ⟨rfl, hdX6_valueAt⟩ ⟨Nat.le_of_ble_eq_true rfl, Nat.le_of_ble_eq_true rfl⟩) hK hN hg (recv_x (ci := 6) (C := RX6) (T := TX6) (N := 3) hg hK (by decide) rfl (by decide) rfl) rfl hl.1 rfl (cat_sum _ (by simp)) dX8_raise_86 (show (sz s43 - sz σ) + 0 ≤ tp - sz σ ∧ 9 * (sz s43 - sz σ) + 0 ≤ 9 * (tp - sz σ) by have q1 := hm.2.1; have q2 := hm.2.2; omega)) hg (fun r47 s46 H locs hz48 hm2 h hg => ?_)
        have hm := hm.tn hm2
        refine W_narrow hg hH (show sz s46 ≤ sz σ + (sz s46 - sz σ) by have q1 := hm.2.1; omega) (Nat.le_refl _) ?_
        refine lv_istore (i := 7) (lv' := [(7, .int (iI (r47))), (6, .int (iI (r44))), (0, .ref (ea E 0)), (1, .int (iI (a1))), (2, .int (iI (a2))), (3, .int (iI (a3))), (4, .int (iI (a4))), (5, .int (iI (v5)))]) hx hb dX8_raise_89 hl (by decide) rfl (fun ls hl => ?_)
        refine lv_aload_n hx hb dX8_raise_91 rfl (lv_at hl 2 rfl) ?_
        refine q_getx (ci := 8) (C := RX8) (T := TX8) (N := 14) (j := 18) hx hb hts (fun _ h9 => List.mem_cons_of_mem _ (List.mem_append_left _ (List.mem_append_left _ (List.mem_append_left _ (List.mem_append_left _ (List.mem_append_left _ (List.mem_append_right _ h9))))))) hown hK hg 0 (by decide) rfl rfl (by decide) rfl 9 (by decide) (hts (.fieldLink RX8 72 "JoinMaps" "second" "LJoinMaps$Row;") (List.mem_cons_of_mem _ (List.mem_append_left _ (List.mem_append_left _ (List.mem_append_left _ (List.mem_append_left _ (List.mem_append_left _ (List.mem_append_left _ (List.mem_append_left _ (List.mem_of_getElem? (i := 2) rfl)))))))))) rfl rfl rfl dX8_raise_92 ?_
        refine lv_iload hx hb dX8_raise_95 (lv_at hl 1 rfl) ?_
        refine lv_iload hx hb dX8_raise_97 (lv_at hl 1 rfl) ?_
        refine lv_iload_n hx hb dX8_raise_99 rfl (lv_at hl 4 rfl) ?_
        refine lv_iload_n hx hb dX8_raise_100 rfl (lv_at hl 5 rfl) ?_
        refine call_z (run_S (As := [.int (iI (r44)), .int (iI (a2)), .int (iI (a3))]) (rest := [.int (iI (r44)), .ref (ea E 18)]) ⟨hx, hb, hml, hown, hts⟩ (ctX8_isIn l E r44 a2 a3 s46 _ hz45 ha2 ha3 h) (va_cwS 3 hts gX8_raise_X8_isIn rfl rfl rfl hdX8_isIn ⟨Nat.le_of_ble_eq_true rfl, Nat.le_of_ble_eq_true rfl⟩) hK hN hg rfl hl.1 rfl (cat_sum _ (by simp)) dX8_raise_101 (show (sz s46 - sz σ) + 0 ≤ tp - sz σ ∧ 9 * (sz s46 - sz σ) + 0 ≤ 9 * (tp - sz σ) by have q1 := hm.2.1; have q2 := hm.2.2; omega)) hg (fun r50 s49 H locs hz51 hm2 h hg => ?_)
        have hm := hm.tn hm2
        refine W_narrow hg hH (show sz s49 ≤ sz σ + (sz s49 - sz σ) by have q1 := hm.2.1; omega) (Nat.le_refl _) ?_
        refine k_eq (tgt := 118) hx hb dX8_raise_104 (by decide) (z_R hz51) (fun c52 => ?_) (fun c52 => ?_)
        · have h := h.1 c52
          refine lv_iload hx hb dX8_raise_118 (lv_at hl 0 rfl) ?_
          refine call_v (run_V (a := ea E 18) (As := [.int (iI (r44)), .int (iI (r47))]) (rest := []) ⟨hx, hb, hml, hown, hts⟩ (ctX6_add l E 18 r44 r47 s49 _ (by decide) hz45 hz48 h) (cwV 2 hts gX8_raise_X6_add rfl rfl rfl ⟨rfl, hdX6_add⟩ ⟨Nat.le_of_ble_eq_true rfl, Nat.le_of_ble_eq_true rfl⟩) hK hN hg (recv_x (ci := 6) (C := RX6) (T := TX6) (N := 3) hg hK (by decide) rfl (by decide) rfl) rfl hl.1 rfl (cat_sum _ (by simp)) dX8_raise_120 (show (sz s49 - sz σ) + 0 ≤ tp - sz σ ∧ 9 * (sz s49 - sz σ) + 0 ≤ 9 * (tp - sz σ) by have q1 := hm.2.1; have q2 := hm.2.2; omega)) hg (fun s53 H locs hm2 h hg => ?_)
          have hm := hm.tn hm2
          refine W_narrow hg hH (show sz s53 ≤ sz σ + (sz s53 - sz σ) by have q1 := hm.2.1; omega) (Nat.le_refl _) ?_
          refine lv_iinc (v := iI (v5 + 1)) (lv' := [(5, .int (iI (v5 + 1))), (7, .int (iI (r47))), (6, .int (iI (r44))), (0, .ref (ea E 0)), (1, .int (iI (a1))), (2, .int (iI (a2))), (3, .int (iI (a3))), (4, .int (iI (a4)))]) hx hb dX8_raise_123 hl (k := 7) rfl (iI_add _ _) (by decide) rfl (fun ls hl => ?_)
          refine lv_goto (tgt := 57) hx hb dX8_raise_126 (by decide) ?_
          exact ih (v5 + 1) (s53) _ _ _ hg hm (lv_sub hl [3, 4, 5, 6, 7, 0] rfl) h
        · have h := h.2 c52
          refine lv_iload hx hb dX8_raise_107 (lv_at hl 0 rfl) ?_
          refine lv_iload hx hb dX8_raise_109 (lv_at hl 6 rfl) ?_
          refine q_iadd hx hb dX8_raise_111 ?_
          obtain ⟨hR56, h⟩ := h
          refine call_i (run_S (As := [.int (iI ((r47 + a4)))]) (rest := [.int (iI (r44)), .ref (ea E 18)]) ⟨hx, hb, hml, hown, hts⟩ (ctX8_held l E (r47 + a4) s49 _ hR56 h) (va_cwS 1 hts gX8_raise_X8_held rfl rfl rfl hdX8_held ⟨Nat.le_of_ble_eq_true rfl, Nat.le_of_ble_eq_true rfl⟩) hK hN hg rfl hl.1 rfl (cat_sum _ (by simp)) dX8_raise_112 (show (sz s49 - sz σ) + 0 ≤ tp - sz σ ∧ 9 * (sz s49 - sz σ) + 0 ≤ 9 * (tp - sz σ) by have q1 := hm.2.1; have q2 := hm.2.2; omega)) hg (fun r58 s57 H locs hz59 hm2 h hg => ?_)
          have hm := hm.tn hm2
          refine W_narrow hg hH (show sz s57 ≤ sz σ + (sz s57 - sz σ) by have q1 := hm.2.1; omega) (Nat.le_refl _) ?_
          refine lv_goto (tgt := 120) hx hb dX8_raise_115 (by decide) ?_
          refine call_v (run_V (a := ea E 18) (As := [.int (iI (r44)), .int (iI (r58))]) (rest := []) ⟨hx, hb, hml, hown, hts⟩ (ctX6_add l E 18 r44 r58 s57 _ (by decide) hz45 hz59 h) (cwV 2 hts gX8_raise_X6_add rfl rfl rfl ⟨rfl, hdX6_add⟩ ⟨Nat.le_of_ble_eq_true rfl, Nat.le_of_ble_eq_true rfl⟩) hK hN hg (recv_x (ci := 6) (C := RX6) (T := TX6) (N := 3) hg hK (by decide) rfl (by decide) rfl) rfl hl.1 rfl (cat_sum _ (by simp)) dX8_raise_120 (show (sz s57 - sz σ) + 0 ≤ tp - sz σ ∧ 9 * (sz s57 - sz σ) + 0 ≤ 9 * (tp - sz σ) by have q1 := hm.2.1; have q2 := hm.2.2; omega)) hg (fun s60 H locs hm2 h hg => ?_)
          have hm := hm.tn hm2
          refine W_narrow hg hH (show sz s60 ≤ sz σ + (sz s60 - sz σ) by have q1 := hm.2.1; omega) (Nat.le_refl _) ?_
          refine lv_iinc (v := iI (v5 + 1)) (lv' := [(5, .int (iI (v5 + 1))), (7, .int (iI (r47))), (6, .int (iI (r44))), (0, .ref (ea E 0)), (1, .int (iI (a1))), (2, .int (iI (a2))), (3, .int (iI (a3))), (4, .int (iI (a4)))]) hx hb dX8_raise_123 hl (k := 7) rfl (iI_add _ _) (by decide) rfl (fun ls hl => ?_)
          refine lv_goto (tgt := 57) hx hb dX8_raise_126 (by decide) ?_
          exact ih (v5 + 1) (s60) _ _ _ hg hm (lv_sub hl [3, 4, 5, 6, 7, 0] rfl) h
  refine lv_iload_n hx hb dX8_raise_0 rfl (lv_at hl 1 rfl) ?_
  refine call_z (run_S (As := [.int (iI (a1))]) (rest := []) ⟨hx, hb, hml, hown, hts⟩ (ctX8_isMap l E a1 σ _ ha1 h) (va_cwS 1 hts gX8_raise_X8_isMap rfl rfl rfl hdX8_isMap ⟨Nat.le_of_ble_eq_true rfl, Nat.le_of_ble_eq_true rfl⟩) hK hN hg rfl hl.1 rfl (cat_sum _ (by simp)) dX8_raise_1 (show (sz σ - sz σ) + 0 ≤ tp - sz σ ∧ 9 * (sz σ - sz σ) + 0 ≤ 9 * (tp - sz σ) by have q1 := hm.2.1; have q2 := hm.2.2; omega)) hg (fun r2 s1 H locs hz3 hm2 h hg => ?_)
  have hm := hm.tn hm2
  refine W_narrow hg hH (show sz s1 ≤ sz σ + (sz s1 - sz σ) by have q1 := hm.2.1; omega) (Nat.le_refl _) ?_
  refine k_eq (tgt := 29) hx hb dX8_raise_4 (by decide) (z_R hz3) (fun c4 => ?_) (fun c4 => ?_)
  · have h := h.1 c4
    refine lv_aload_n hx hb dX8_raise_29 rfl (lv_at hl 0 rfl) ?_
    refine call_i (run_V (a := ea E 0) (As := []) (rest := []) ⟨hx, hb, hml, hown, hts⟩ (ctX8_bad l E  s1 _  h) (cwV 0 hts gX8_raise_X8_bad rfl rfl rfl ⟨rfl, hdX8_bad⟩ ⟨Nat.le_of_ble_eq_true rfl, Nat.le_of_ble_eq_true rfl⟩) hK hN hg (recv_x (ci := 8) (C := RX8) (T := TX8) (N := 14) hg hK (by decide) rfl (by decide) rfl) rfl hl.1 rfl (cat_sum _ (by simp)) dX8_raise_30 (show (sz s1 - sz σ) + 0 ≤ tp - sz σ ∧ 9 * (sz s1 - sz σ) + 0 ≤ 9 * (tp - sz σ) by have q1 := hm.2.1; have q2 := hm.2.2; omega)) hg (fun r6 s5 H locs hz7 hm2 h hg => ?_)
    have hm := hm.tn hm2
    refine W_narrow hg hH (show sz s5 ≤ sz σ + (sz s5 - sz σ) by have q1 := hm.2.1; omega) (Nat.le_refl _) ?_
    refine W.widen (k := tp - sz σ) (n := 9 * (tp - sz σ)) (show sz s5 - sz σ ≤ _ by have q1 := hm.2.2; omega) (show 9 * (sz s5 - sz σ) ≤ _ by have q1 := hm.2.2; omega) ?_
    exact ret_i hx hb hr hlocks hg hz7 hm h dX8_raise_33
  · have h := h.2 c4
    refine lv_iload_n hx hb dX8_raise_7 rfl (lv_at hl 2 rfl) ?_
    refine lv_iload_n hx hb dX8_raise_8 rfl (lv_at hl 3 rfl) ?_
    refine call_z (run_S (As := [.int (iI (a2)), .int (iI (a3))]) (rest := []) ⟨hx, hb, hml, hown, hts⟩ (ctX8_isRange l E a2 a3 s1 _ ha2 ha3 h) (va_cwS 2 hts gX8_raise_X8_isRange rfl rfl rfl hdX8_isRange ⟨Nat.le_of_ble_eq_true rfl, Nat.le_of_ble_eq_true rfl⟩) hK hN hg rfl hl.1 rfl (cat_sum _ (by simp)) dX8_raise_9 (show (sz s1 - sz σ) + 0 ≤ tp - sz σ ∧ 9 * (sz s1 - sz σ) + 0 ≤ 9 * (tp - sz σ) by have q1 := hm.2.1; have q2 := hm.2.2; omega)) hg (fun r9 s8 H locs hz10 hm2 h hg => ?_)
    have hm := hm.tn hm2
    refine W_narrow hg hH (show sz s8 ≤ sz σ + (sz s8 - sz σ) by have q1 := hm.2.1; omega) (Nat.le_refl _) ?_
    refine k_eq (tgt := 29) hx hb dX8_raise_12 (by decide) (z_R hz10) (fun c11 => ?_) (fun c11 => ?_)
    · have h := h.1 c11
      refine lv_aload_n hx hb dX8_raise_29 rfl (lv_at hl 0 rfl) ?_
      refine call_i (run_V (a := ea E 0) (As := []) (rest := []) ⟨hx, hb, hml, hown, hts⟩ (ctX8_bad l E  s8 _  h) (cwV 0 hts gX8_raise_X8_bad rfl rfl rfl ⟨rfl, hdX8_bad⟩ ⟨Nat.le_of_ble_eq_true rfl, Nat.le_of_ble_eq_true rfl⟩) hK hN hg (recv_x (ci := 8) (C := RX8) (T := TX8) (N := 14) hg hK (by decide) rfl (by decide) rfl) rfl hl.1 rfl (cat_sum _ (by simp)) dX8_raise_30 (show (sz s8 - sz σ) + 0 ≤ tp - sz σ ∧ 9 * (sz s8 - sz σ) + 0 ≤ 9 * (tp - sz σ) by have q1 := hm.2.1; have q2 := hm.2.2; omega)) hg (fun r13 s12 H locs hz14 hm2 h hg => ?_)
      have hm := hm.tn hm2
      refine W_narrow hg hH (show sz s12 ≤ sz σ + (sz s12 - sz σ) by have q1 := hm.2.1; omega) (Nat.le_refl _) ?_
      refine W.widen (k := tp - sz σ) (n := 9 * (tp - sz σ)) (show sz s12 - sz σ ≤ _ by have q1 := hm.2.2; omega) (show 9 * (sz s12 - sz σ) ≤ _ by have q1 := hm.2.2; omega) ?_
      exact ret_i hx hb hr hlocks hg hz14 hm h dX8_raise_33
    · have h := h.2 c11
      refine lv_iload hx hb dX8_raise_15 (lv_at hl 4 rfl) ?_
      refine lv_sipush (v := iI (-1000)) hx hb dX8_raise_17 (by decide) ?_
      refine lv_sipush (v := iI 1000) hx hb dX8_raise_20 (by decide) ?_
      refine call_z (run_S (As := [.int (iI (a4)), .int (iI ((-1000))), .int (iI (1000))]) (rest := []) ⟨hx, hb, hml, hown, hts⟩ (ctX8_isIn l E a4 (-1000) 1000 s8 _ ha4 (by decide) (by decide) h) (va_cwS 3 hts gX8_raise_X8_isIn rfl rfl rfl hdX8_isIn ⟨Nat.le_of_ble_eq_true rfl, Nat.le_of_ble_eq_true rfl⟩) hK hN hg rfl hl.1 rfl (cat_sum _ (by simp)) dX8_raise_23 (show (sz s8 - sz σ) + 0 ≤ tp - sz σ ∧ 9 * (sz s8 - sz σ) + 0 ≤ 9 * (tp - sz σ) by have q1 := hm.2.1; have q2 := hm.2.2; omega)) hg (fun r16 s15 H locs hz17 hm2 h hg => ?_)
      have hm := hm.tn hm2
      refine W_narrow hg hH (show sz s15 ≤ sz σ + (sz s15 - sz σ) by have q1 := hm.2.1; omega) (Nat.le_refl _) ?_
      refine k_ne (tgt := 34) hx hb dX8_raise_26 (by decide) (z_R hz17) (fun c18 => ?_) (fun c18 => ?_)
      · have h := h.1 c18
        refine lv_aload_n hx hb dX8_raise_34 rfl (lv_at hl 0 rfl) ?_
        refine q_getx (ci := 8) (C := RX8) (T := TX8) (N := 14) (j := 15) hx hb hts (fun _ h9 => List.mem_cons_of_mem _ (List.mem_append_left _ (List.mem_append_left _ (List.mem_append_left _ (List.mem_append_left _ (List.mem_append_left _ (List.mem_append_right _ h9))))))) hown hK hg 0 (by decide) rfl rfl (by decide) rfl 8 (by decide) (hts (.fieldLink RX8 68 "JoinMaps" "first" "LJoinMaps$Row;") (List.mem_cons_of_mem _ (List.mem_append_left _ (List.mem_append_left _ (List.mem_append_left _ (List.mem_append_left _ (List.mem_append_left _ (List.mem_append_left _ (List.mem_append_left _ (List.mem_of_getElem? (i := 0) rfl)))))))))) rfl rfl rfl dX8_raise_35 ?_
        refine lv_aload_n hx hb dX8_raise_38 rfl (lv_at hl 0 rfl) ?_
        refine q_getx (ci := 8) (C := RX8) (T := TX8) (N := 14) (j := 3) hx hb hts (fun _ h9 => List.mem_cons_of_mem _ (List.mem_append_left _ (List.mem_append_left _ (List.mem_append_left _ (List.mem_append_left _ (List.mem_append_left _ (List.mem_append_right _ h9))))))) hown hK hg 0 (by decide) rfl rfl (by decide) rfl 2 (by decide) (hts (.fieldLink RX8 27 "JoinMaps" "maps" "[LJoinMaps$Node;") (List.mem_cons_of_mem _ (List.mem_append_left _ (List.mem_append_left _ (List.mem_append_left _ (List.mem_append_left _ (List.mem_append_left _ (List.mem_append_left _ (List.mem_append_left _ (List.mem_of_getElem? (i := 1) rfl)))))))))) rfl rfl rfl dX8_raise_39 ?_
        refine lv_iload_n hx hb dX8_raise_42 rfl (lv_at hl 1 rfl) ?_
        obtain ⟨hP19, hP20, h⟩ := h
        refine q_aald (N := 6) hx hb hK hg 3 (by decide) rfl rfl hP19 hP20 (by decide) dX8_raise_43 ?_
        have hS21 : ∀ b, (sf s15 3 (a1 : Int).toNat) = some b → sS s15 b := fun b h0 => GS_F hg h0
        refine call_v (run_V (a := ea E 15) (As := [va_rf ((sf s15 3 (a1 : Int).toNat))]) (rest := []) ⟨hx, hb, hml, hown, hts⟩ (ctX6_take l E 15 (sf s15 3 (a1 : Int).toNat) s15 _ (by decide) hS21 h) (cwV 1 hts gX8_raise_X6_take rfl rfl rfl ⟨rfl, hdX6_take⟩ ⟨Nat.le_of_ble_eq_true rfl, Nat.le_of_ble_eq_true rfl⟩) hK hN hg (recv_x (ci := 6) (C := RX6) (T := TX6) (N := 3) hg hK (by decide) rfl (by decide) rfl) rfl hl.1 rfl (cat_sum _ (by simp)) dX8_raise_44 (show (sz s15 - sz σ) + 0 ≤ tp - sz σ ∧ 9 * (sz s15 - sz σ) + 0 ≤ 9 * (tp - sz σ) by have q1 := hm.2.1; have q2 := hm.2.2; omega)) hg (fun s22 H locs hm2 h hg => ?_)
        have hm := hm.tn hm2
        refine W_narrow hg hH (show sz s22 ≤ sz σ + (sz s22 - sz σ) by have q1 := hm.2.1; omega) (Nat.le_refl _) ?_
        refine lv_aload_n hx hb dX8_raise_47 rfl (lv_at hl 0 rfl) ?_
        refine q_getx (ci := 8) (C := RX8) (T := TX8) (N := 14) (j := 18) hx hb hts (fun _ h9 => List.mem_cons_of_mem _ (List.mem_append_left _ (List.mem_append_left _ (List.mem_append_left _ (List.mem_append_left _ (List.mem_append_left _ (List.mem_append_right _ h9))))))) hown hK hg 0 (by decide) rfl rfl (by decide) rfl 9 (by decide) (hts (.fieldLink RX8 72 "JoinMaps" "second" "LJoinMaps$Row;") (List.mem_cons_of_mem _ (List.mem_append_left _ (List.mem_append_left _ (List.mem_append_left _ (List.mem_append_left _ (List.mem_append_left _ (List.mem_append_left _ (List.mem_append_left _ (List.mem_of_getElem? (i := 2) rfl)))))))))) rfl rfl rfl dX8_raise_48 ?_
        refine call_v (run_V (a := ea E 18) (As := []) (rest := []) ⟨hx, hb, hml, hown, hts⟩ (ctX6_empty l E 18 s22 _ (by decide) h) (cwV 0 hts gX8_raise_X6_empty rfl rfl rfl ⟨rfl, hdX6_empty⟩ ⟨Nat.le_of_ble_eq_true rfl, Nat.le_of_ble_eq_true rfl⟩) hK hN hg (recv_x (ci := 6) (C := RX6) (T := TX6) (N := 3) hg hK (by decide) rfl (by decide) rfl) rfl hl.1 rfl (cat_sum _ (by simp)) dX8_raise_51 (show (sz s22 - sz σ) + 0 ≤ tp - sz σ ∧ 9 * (sz s22 - sz σ) + 0 ≤ 9 * (tp - sz σ) by have q1 := hm.2.1; have q2 := hm.2.2; omega)) hg (fun s25 H locs hm2 h hg => ?_)
        have hm := hm.tn hm2
        refine W_narrow hg hH (show sz s25 ≤ sz σ + (sz s25 - sz σ) by have q1 := hm.2.1; omega) (Nat.le_refl _) ?_
        refine lv_iconst (v := iI 0) hx hb dX8_raise_54 (by decide) ?_
        refine lv_istore (i := 5) (lv' := [(5, .int (iI (0))), (0, .ref (ea E 0)), (1, .int (iI (a1))), (2, .int (iI (a2))), (3, .int (iI (a3))), (4, .int (iI (a4)))]) hx hb dX8_raise_55 hl (by decide) rfl (fun ls hl => ?_)
        obtain ⟨kk, h⟩ := h
        exact J57  kk (0) (s25) _ _ _ hg hm (lv_sub hl [1, 2, 3, 4, 5, 0] rfl) h
      · have h := h.2 c18
        refine lv_aload_n hx hb dX8_raise_29 rfl (lv_at hl 0 rfl) ?_
        refine call_i (run_V (a := ea E 0) (As := []) (rest := []) ⟨hx, hb, hml, hown, hts⟩ (ctX8_bad l E  s15 _  h) (cwV 0 hts gX8_raise_X8_bad rfl rfl rfl ⟨rfl, hdX8_bad⟩ ⟨Nat.le_of_ble_eq_true rfl, Nat.le_of_ble_eq_true rfl⟩) hK hN hg (recv_x (ci := 8) (C := RX8) (T := TX8) (N := 14) hg hK (by decide) rfl (by decide) rfl) rfl hl.1 rfl (cat_sum _ (by simp)) dX8_raise_30 (show (sz s15 - sz σ) + 0 ≤ tp - sz σ ∧ 9 * (sz s15 - sz σ) + 0 ≤ 9 * (tp - sz σ) by have q1 := hm.2.1; have q2 := hm.2.2; omega)) hg (fun r29 s28 H locs hz30 hm2 h hg => ?_)
        have hm := hm.tn hm2
        refine W_narrow hg hH (show sz s28 ≤ sz σ + (sz s28 - sz σ) by have q1 := hm.2.1; omega) (Nat.le_refl _) ?_
        refine W.widen (k := tp - sz σ) (n := 9 * (tp - sz σ)) (show sz s28 - sz σ ≤ _ by have q1 := hm.2.2; omega) (show 9 * (sz s28 - sz σ) ≤ _ by have q1 := hm.2.2; omega) ?_
        exact ret_i hx hb hr hlocks hg hz30 hm h dX8_raise_33
theorem hdX8_slide : yX8_slide.cls ≠ "java/lang/invoke/MethodHandle" ∧ yX8_slide.cls ≠ "java/lang/invoke/VarHandle" ∧ (parseMethodDescriptor yX8_slide.desc).map (fun d => d.parameters.length) = some 2 := by decide +kernel
set_option maxRecDepth 100000 in
set_option maxHeartbeats 4000000 in
theorem ctX8_slide (l : Launch) (E : Ev) (tp : Nat) (a1 : Int) (a2 : Int) (σ : SS) (Q : Int → SS → Prop) (ha1 : R32 a1) (ha2 : R32 a2) (ht : sz σ ≤ tp) (h : wX8_slide tp a1 a2 σ Q) : Met l yX8_slide wsX8_slide ({ frames := 95, cells := tp - sz σ, slots := 9 * (tp - sz σ), locals := 2565 } : Room) (Pc E σ [.ref (ea E 0), .int (iI (a1)), .int (iI (a2))]) (Qi E tp σ Q) (tp - sz σ) (9 * (tp - sz σ)) (Av E) := by
  rw [wX8_slide] at h
  refine Met.ofW (cc := cX8_slide) (maxL := 5) (ret := (some .int)) (by decide) rfl ?_
  intro p e s m args below meth c s₁ B hml hv
  obtain ⟨rfl, hH, hK, hN⟩ := hv
  have hx := B.exec
  have hb := B.bytes
  have hr := B.returns
  have hts := atoms_spec (ws := wsX8_slide) B.pre
  have hown : s.vm.findClass RX8 = some m.cls := findClass_of_methodNamed B.named
  have hlocks := B.notSynchronized
  have hg : GS E σ s s.heap [] := ⟨hH, va_S.rf⟩
  have hm : Mo tp σ σ := Mo.rf ht
  have hl := ent (vs := [.ref (ea E 0), .int (iI (a1)), .int (iI (a2))]) (n := 5) (cats_x (cats_i (cats_i cats_nil))) (Nat.le_of_ble_eq_true rfl)
  rw [lg_entry_eq]
  generalize (lg_sl ([.ref (ea E 0), .int (iI (a1)), .int (iI (a2))]) ++ List.replicate (5 - (lg_sl ([.ref (ea E 0), .int (iI (a1)), .int (iI (a2))])).length) Slot.unset).toArray = ls at hl ⊢
  have hl : lv_has ls 5 [(0, .ref (ea E 0)), (1, .int (iI (a1))), (2, .int (iI (a2)))] := hl
  refine W_narrow hg hH (show sz σ ≤ sz σ + (sz σ - sz σ) by omega) (show 9 * (sz σ - sz σ) ≤ 9 * (sz σ - sz σ) from Nat.le_refl _) ?_
  have J105 : ∀ (k : Nat), ∀ (v4 : Int) (sL : SS) (H : Heap) (locs : List Loc) (ls : Array Slot), GS E sL s H locs → Mo tp σ sL → lv_has ls 5 [(0, .ref (ea E 0)), (1, .int (iI (a1))), (2, .int (iI (a2))), (4, .int (iI (v4)))] → wX8_slide_L105 tp a1 a2 Q  k v4 sL → W p l e (headSpec wsX8_slide ({ frames := 95, cells := tp - sz σ, slots := 9 * (tp - sz σ), locals := 2565 } : Room)).room s m (List.toArray [.ref (ea E 0), .int (iI (a1)), .int (iI (a2))]) below meth c H locs (sz sL - sz σ) (9 * (sz sL - sz σ)) (MQ below (Qi E tp σ Q) (List.toArray [.ref (ea E 0), .int (iI (a1)), .int (iI (a2))]) s (tp - sz σ) (9 * (tp - sz σ)) (Av E)) (F0 m 105 ls []) := by
    intro k
    induction k with
    | zero => intro v4 sL H locs ls hg hm hl h; exact False.elim h
    | succ k ih =>
      intro v4 sL H locs ls hg hm hl h
      rw [wX8_slide_L105] at h
      refine lv_iload hx hb dX8_slide_105 (lv_at hl 3 rfl) ?_
      refine lv_aload_n hx hb dX8_slide_107 rfl (lv_at hl 0 rfl) ?_
      refine q_getx (ci := 8) (C := RX8) (T := TX8) (N := 14) (j := 15) hx hb hts (fun _ h9 => List.mem_cons_of_mem _ (List.mem_append_left _ (List.mem_append_left _ (List.mem_append_left _ (List.mem_append_left _ (List.mem_append_left _ (List.mem_append_right _ h9))))))) hown hK hg 0 (by decide) rfl rfl (by decide) rfl 8 (by decide) (hts (.fieldLink RX8 68 "JoinMaps" "first" "LJoinMaps$Row;") (List.mem_cons_of_mem _ (List.mem_append_left _ (List.mem_append_left _ (List.mem_append_left _ (List.mem_append_left _ (List.mem_append_left _ (List.mem_append_left _ (List.mem_append_left _ (List.mem_of_getElem? (i := 1) rfl)))))))))) rfl rfl rfl dX8_slide_108 ?_
      refine q_geti (ci := 6) (C := RX6) (T := TX6) (N := 3) hx hb hts (fun _ h9 => List.mem_cons_of_mem _ (List.mem_append_left _ (List.mem_append_left _ (List.mem_append_left _ (List.mem_append_left _ (List.mem_append_right _ h9)))))) hown hK hg 15 (by decide) rfl rfl (by decide) rfl 2 (by decide) (hts (.fieldLink RX8 153 "JoinMaps$Row" "length" "I") (List.mem_cons_of_mem _ (List.mem_append_left _ (List.mem_append_left _ (List.mem_append_left _ (List.mem_append_left _ (List.mem_append_left _ (List.mem_append_left _ (List.mem_append_left _ (List.mem_of_getElem? (i := 3) rfl)))))))))) rfl rfl dX8_slide_111 ?_
      have hR69 := GS_R hg 15 2
      obtain ⟨hR70, h⟩ := h
      refine j_ge (tgt := 150) hx hb dX8_slide_114 (by decide) hR70 hR69 (fun c71 => ?_) (fun c71 => ?_)
      · have h := h.1 c71
        refine lv_aload_n hx hb dX8_slide_150 rfl (lv_at hl 0 rfl) ?_
        refine lv_iload_n hx hb dX8_slide_151 rfl (lv_at hl 1 rfl) ?_
        refine lv_aload_n hx hb dX8_slide_152 rfl (lv_at hl 0 rfl) ?_
        refine q_getx (ci := 8) (C := RX8) (T := TX8) (N := 14) (j := 18) hx hb hts (fun _ h9 => List.mem_cons_of_mem _ (List.mem_append_left _ (List.mem_append_left _ (List.mem_append_left _ (List.mem_append_left _ (List.mem_append_left _ (List.mem_append_right _ h9))))))) hown hK hg 0 (by decide) rfl rfl (by decide) rfl 9 (by decide) (hts (.fieldLink RX8 72 "JoinMaps" "second" "LJoinMaps$Row;") (List.mem_cons_of_mem _ (List.mem_append_left _ (List.mem_append_left _ (List.mem_append_left _ (List.mem_append_left _ (List.mem_append_left _ (List.mem_append_left _ (List.mem_append_left _ (List.mem_of_getElem? (i := 2) rfl)))))))))) rfl rfl rfl dX8_slide_153 ?_
        refine call_i (run_V (a := ea E 0) (As := [.int (iI (a1)), .ref (ea E 18)]) (rest := []) ⟨hx, hb, hml, hown, hts⟩ (ctX8_settleRow l E tp a1 18 sL _ ha1 (by decide) hm.2.2 h) (cwV 2 hts gX8_slide_X8_settleRow rfl rfl rfl ⟨rfl, hdX8_settleRow⟩ ⟨Nat.le_of_ble_eq_true rfl, Nat.le_of_ble_eq_true rfl⟩) hK hN hg (recv_x (ci := 8) (C := RX8) (T := TX8) (N := 14) hg hK (by decide) rfl (by decide) rfl) rfl hl.1 rfl (cat_sum _ (by simp)) dX8_slide_156 (show (sz sL - sz σ) + (tp - sz sL) ≤ tp - sz σ ∧ 9 * (sz sL - sz σ) + 9 * (tp - sz sL) ≤ 9 * (tp - sz σ) by have q1 := hm.2.1; have q2 := hm.2.2; omega)) hg (fun r73 s72 H locs hz74 hm2 h hg => ?_)
        have hm := hm.ta hm2
        refine W_narrow hg hH (show sz s72 ≤ sz σ + (sz s72 - sz σ) by have q1 := hm.2.1; omega) (Nat.le_refl _) ?_
        refine W.widen (k := tp - sz σ) (n := 9 * (tp - sz σ)) (show sz s72 - sz σ ≤ _ by have q1 := hm.2.2; omega) (show 9 * (sz s72 - sz σ) ≤ _ by have q1 := hm.2.2; omega) ?_
        exact ret_i hx hb hr hlocks hg hz74 hm h dX8_slide_159
      · have h := h.2 c71
        refine lv_aload_n hx hb dX8_slide_117 rfl (lv_at hl 0 rfl) ?_
        refine q_getx (ci := 8) (C := RX8) (T := TX8) (N := 14) (j := 18) hx hb hts (fun _ h9 => List.mem_cons_of_mem _ (List.mem_append_left _ (List.mem_append_left _ (List.mem_append_left _ (List.mem_append_left _ (List.mem_append_left _ (List.mem_append_right _ h9))))))) hown hK hg 0 (by decide) rfl rfl (by decide) rfl 9 (by decide) (hts (.fieldLink RX8 72 "JoinMaps" "second" "LJoinMaps$Row;") (List.mem_cons_of_mem _ (List.mem_append_left _ (List.mem_append_left _ (List.mem_append_left _ (List.mem_append_left _ (List.mem_append_left _ (List.mem_append_left _ (List.mem_append_left _ (List.mem_of_getElem? (i := 2) rfl)))))))))) rfl rfl rfl dX8_slide_118 ?_
        refine lv_aload_n hx hb dX8_slide_121 rfl (lv_at hl 0 rfl) ?_
        refine q_getx (ci := 8) (C := RX8) (T := TX8) (N := 14) (j := 15) hx hb hts (fun _ h9 => List.mem_cons_of_mem _ (List.mem_append_left _ (List.mem_append_left _ (List.mem_append_left _ (List.mem_append_left _ (List.mem_append_left _ (List.mem_append_right _ h9))))))) hown hK hg 0 (by decide) rfl rfl (by decide) rfl 8 (by decide) (hts (.fieldLink RX8 68 "JoinMaps" "first" "LJoinMaps$Row;") (List.mem_cons_of_mem _ (List.mem_append_left _ (List.mem_append_left _ (List.mem_append_left _ (List.mem_append_left _ (List.mem_append_left _ (List.mem_append_left _ (List.mem_append_left _ (List.mem_of_getElem? (i := 1) rfl)))))))))) rfl rfl rfl dX8_slide_122 ?_
        refine lv_iload hx hb dX8_slide_125 (lv_at hl 3 rfl) ?_
        refine call_i (run_V (a := ea E 15) (As := [.int (iI (v4))]) (rest := [.ref (ea E 18)]) ⟨hx, hb, hml, hown, hts⟩ (ctX6_keyAt l E 15 v4 sL _ (by decide) hR70 h) (cwV 1 hts gX8_slide_X6_keyAt rfl rfl rfl ⟨rfl, hdX6_keyAt⟩ ⟨Nat.le_of_ble_eq_true rfl, Nat.le_of_ble_eq_true rfl⟩) hK hN hg (recv_x (ci := 6) (C := RX6) (T := TX6) (N := 3) hg hK (by decide) rfl (by decide) rfl) rfl hl.1 rfl (cat_sum _ (by simp)) dX8_slide_127 (show (sz sL - sz σ) + 0 ≤ tp - sz σ ∧ 9 * (sz sL - sz σ) + 0 ≤ 9 * (tp - sz σ) by have q1 := hm.2.1; have q2 := hm.2.2; omega)) hg (fun r76 s75 H locs hz77 hm2 h hg => ?_)
        have hm := hm.tn hm2
        refine W_narrow hg hH (show sz s75 ≤ sz σ + (sz s75 - sz σ) by have q1 := hm.2.1; omega) (Nat.le_refl _) ?_
        refine lv_iload_n hx hb dX8_slide_130 rfl (lv_at hl 2 rfl) ?_
        refine q_iadd hx hb dX8_slide_131 ?_
        refine lv_aload_n hx hb dX8_slide_132 rfl (lv_at hl 0 rfl) ?_
        refine q_getx (ci := 8) (C := RX8) (T := TX8) (N := 14) (j := 15) hx hb hts (fun _ h9 => List.mem_cons_of_mem _ (List.mem_append_left _ (List.mem_append_left _ (List.mem_append_left _ (List.mem_append_left _ (List.mem_append_left _ (List.mem_append_right _ h9))))))) hown hK hg 0 (by decide) rfl rfl (by decide) rfl 8 (by decide) (hts (.fieldLink RX8 68 "JoinMaps" "first" "LJoinMaps$Row;") (List.mem_cons_of_mem _ (List.mem_append_left _ (List.mem_append_left _ (List.mem_append_left _ (List.mem_append_left _ (List.mem_append_left _ (List.mem_append_left _ (List.mem_append_left _ (List.mem_of_getElem? (i := 1) rfl)))))))))) rfl rfl rfl dX8_slide_133 ?_
        refine lv_iload hx hb dX8_slide_136 (lv_at hl 3 rfl) ?_
        refine call_i (run_V (a := ea E 15) (As := [.int (iI (v4))]) (rest := [.int (iI ((r76 + a2))), .ref (ea E 18)]) ⟨hx, hb, hml, hown, hts⟩ (ctX6_valueAt l E 15 v4 s75 _ (by decide) hR70 h) (cwV 1 hts gX8_slide_X6_valueAt rfl rfl rfl ⟨rfl, hdX6_valueAt⟩ ⟨Nat.le_of_ble_eq_true rfl, Nat.le_of_ble_eq_true rfl⟩) hK hN hg (recv_x (ci := 6) (C := RX6) (T := TX6) (N := 3) hg hK (by decide) rfl (by decide) rfl) rfl hl.1 rfl (cat_sum _ (by simp)) dX8_slide_138 (show (sz s75 - sz σ) + 0 ≤ tp - sz σ ∧ 9 * (sz s75 - sz σ) + 0 ≤ 9 * (tp - sz σ) by have q1 := hm.2.1; have q2 := hm.2.2; omega)) hg (fun r79 s78 H locs hz80 hm2 h hg => ?_)
        have hm := hm.tn hm2
        refine W_narrow hg hH (show sz s78 ≤ sz σ + (sz s78 - sz σ) by have q1 := hm.2.1; omega) (Nat.le_refl _) ?_
        obtain ⟨hR81, h⟩ := h
        refine call_v (run_V (a := ea E 18) (As := [.int (iI ((r76 + a2))), .int (iI (r79))]) (rest := []) ⟨hx, hb, hml, hown, hts⟩ (ctX6_add l E 18 (r76 + a2) r79 s78 _ (by decide) hR81 hz80 h) (cwV 2 hts gX8_slide_X6_add rfl rfl rfl ⟨rfl, hdX6_add⟩ ⟨Nat.le_of_ble_eq_true rfl, Nat.le_of_ble_eq_true rfl⟩) hK hN hg (recv_x (ci := 6) (C := RX6) (T := TX6) (N := 3) hg hK (by decide) rfl (by decide) rfl) rfl hl.1 rfl (cat_sum _ (by simp)) dX8_slide_141 (show (sz s78 - sz σ) + 0 ≤ tp - sz σ ∧ 9 * (sz s78 - sz σ) + 0 ≤ 9 * (tp - sz σ) by have q1 := hm.2.1; have q2 := hm.2.2; omega)) hg (fun s82 H locs hm2 h hg => ?_)
        have hm := hm.tn hm2
        refine W_narrow hg hH (show sz s82 ≤ sz σ + (sz s82 - sz σ) by have q1 := hm.2.1; omega) (Nat.le_refl _) ?_
        refine lv_iinc (v := iI (v4 + 1)) (lv' := [(4, .int (iI (v4 + 1))), (0, .ref (ea E 0)), (1, .int (iI (a1))), (2, .int (iI (a2)))]) hx hb dX8_slide_144 hl (k := 3) rfl (iI_add _ _) (by decide) rfl (fun ls hl => ?_)
        refine lv_goto (tgt := 105) hx hb dX8_slide_147 (by decide) ?_
        exact ih (v4 + 1) (s82) _ _ _ hg hm (lv_sub hl [1, 2, 3, 0] rfl) h
  refine lv_iload_n hx hb dX8_slide_0 rfl (lv_at hl 1 rfl) ?_
  refine call_z (run_S (As := [.int (iI (a1))]) (rest := []) ⟨hx, hb, hml, hown, hts⟩ (ctX8_isMap l E a1 σ _ ha1 h) (va_cwS 1 hts gX8_slide_X8_isMap rfl rfl rfl hdX8_isMap ⟨Nat.le_of_ble_eq_true rfl, Nat.le_of_ble_eq_true rfl⟩) hK hN hg rfl hl.1 rfl (cat_sum _ (by simp)) dX8_slide_1 (show (sz σ - sz σ) + 0 ≤ tp - sz σ ∧ 9 * (sz σ - sz σ) + 0 ≤ 9 * (tp - sz σ) by have q1 := hm.2.1; have q2 := hm.2.2; omega)) hg (fun r2 s1 H locs hz3 hm2 h hg => ?_)
  have hm := hm.tn hm2
  refine W_narrow hg hH (show sz s1 ≤ sz σ + (sz s1 - sz σ) by have q1 := hm.2.1; omega) (Nat.le_refl _) ?_
  refine k_eq (tgt := 20) hx hb dX8_slide_4 (by decide) (z_R hz3) (fun c4 => ?_) (fun c4 => ?_)
  · have h := h.1 c4
    refine lv_aload_n hx hb dX8_slide_20 rfl (lv_at hl 0 rfl) ?_
    refine call_i (run_V (a := ea E 0) (As := []) (rest := []) ⟨hx, hb, hml, hown, hts⟩ (ctX8_bad l E  s1 _  h) (cwV 0 hts gX8_slide_X8_bad rfl rfl rfl ⟨rfl, hdX8_bad⟩ ⟨Nat.le_of_ble_eq_true rfl, Nat.le_of_ble_eq_true rfl⟩) hK hN hg (recv_x (ci := 8) (C := RX8) (T := TX8) (N := 14) hg hK (by decide) rfl (by decide) rfl) rfl hl.1 rfl (cat_sum _ (by simp)) dX8_slide_21 (show (sz s1 - sz σ) + 0 ≤ tp - sz σ ∧ 9 * (sz s1 - sz σ) + 0 ≤ 9 * (tp - sz σ) by have q1 := hm.2.1; have q2 := hm.2.2; omega)) hg (fun r6 s5 H locs hz7 hm2 h hg => ?_)
    have hm := hm.tn hm2
    refine W_narrow hg hH (show sz s5 ≤ sz σ + (sz s5 - sz σ) by have q1 := hm.2.1; omega) (Nat.le_refl _) ?_
    refine W.widen (k := tp - sz σ) (n := 9 * (tp - sz σ)) (show sz s5 - sz σ ≤ _ by have q1 := hm.2.2; omega) (show 9 * (sz s5 - sz σ) ≤ _ by have q1 := hm.2.2; omega) ?_
    exact ret_i hx hb hr hlocks hg hz7 hm h dX8_slide_24
  · have h := h.2 c4
    refine lv_iload_n hx hb dX8_slide_7 rfl (lv_at hl 2 rfl) ?_
    refine lv_sipush (v := iI (-1000)) hx hb dX8_slide_8 (by decide) ?_
    refine lv_sipush (v := iI 1000) hx hb dX8_slide_11 (by decide) ?_
    refine call_z (run_S (As := [.int (iI (a2)), .int (iI ((-1000))), .int (iI (1000))]) (rest := []) ⟨hx, hb, hml, hown, hts⟩ (ctX8_isIn l E a2 (-1000) 1000 s1 _ ha2 (by decide) (by decide) h) (va_cwS 3 hts gX8_slide_X8_isIn rfl rfl rfl hdX8_isIn ⟨Nat.le_of_ble_eq_true rfl, Nat.le_of_ble_eq_true rfl⟩) hK hN hg rfl hl.1 rfl (cat_sum _ (by simp)) dX8_slide_14 (show (sz s1 - sz σ) + 0 ≤ tp - sz σ ∧ 9 * (sz s1 - sz σ) + 0 ≤ 9 * (tp - sz σ) by have q1 := hm.2.1; have q2 := hm.2.2; omega)) hg (fun r9 s8 H locs hz10 hm2 h hg => ?_)
    have hm := hm.tn hm2
    refine W_narrow hg hH (show sz s8 ≤ sz σ + (sz s8 - sz σ) by have q1 := hm.2.1; omega) (Nat.le_refl _) ?_
    refine k_ne (tgt := 25) hx hb dX8_slide_17 (by decide) (z_R hz10) (fun c11 => ?_) (fun c11 => ?_)
    · have h := h.1 c11
      refine lv_aload_n hx hb dX8_slide_25 rfl (lv_at hl 0 rfl) ?_
      refine q_getx (ci := 8) (C := RX8) (T := TX8) (N := 14) (j := 3) hx hb hts (fun _ h9 => List.mem_cons_of_mem _ (List.mem_append_left _ (List.mem_append_left _ (List.mem_append_left _ (List.mem_append_left _ (List.mem_append_left _ (List.mem_append_right _ h9))))))) hown hK hg 0 (by decide) rfl rfl (by decide) rfl 2 (by decide) (hts (.fieldLink RX8 27 "JoinMaps" "maps" "[LJoinMaps$Node;") (List.mem_cons_of_mem _ (List.mem_append_left _ (List.mem_append_left _ (List.mem_append_left _ (List.mem_append_left _ (List.mem_append_left _ (List.mem_append_left _ (List.mem_append_left _ (List.mem_of_getElem? (i := 0) rfl)))))))))) rfl rfl rfl dX8_slide_26 ?_
      refine lv_iload_n hx hb dX8_slide_29 rfl (lv_at hl 1 rfl) ?_
      obtain ⟨hP12, hP13, h⟩ := h
      refine q_aald (N := 6) hx hb hK hg 3 (by decide) rfl rfl hP12 hP13 (by decide) dX8_slide_30 ?_
      have hS14 : ∀ b, (sf s8 3 (a1 : Int).toNat) = some b → sS s8 b := fun b h0 => GS_F hg h0
      refine call_i (run_S (As := [va_rf ((sf s8 3 (a1 : Int).toNat))]) (rest := []) ⟨hx, hb, hml, hown, hts⟩ (ctX3_countOf l E (sf s8 3 (a1 : Int).toNat) s8 _ hS14 h) (va_cwS 1 hts gX8_slide_X3_countOf rfl rfl rfl hdX3_countOf ⟨Nat.le_of_ble_eq_true rfl, Nat.le_of_ble_eq_true rfl⟩) hK hN hg rfl hl.1 rfl (cat_sum _ (by simp)) dX8_slide_31 (show (sz s8 - sz σ) + 0 ≤ tp - sz σ ∧ 9 * (sz s8 - sz σ) + 0 ≤ 9 * (tp - sz σ) by have q1 := hm.2.1; have q2 := hm.2.2; omega)) hg (fun r16 s15 H locs hz17 hm2 h hg => ?_)
      have hm := hm.tn hm2
      refine W_narrow hg hH (show sz s15 ≤ sz σ + (sz s15 - sz σ) by have q1 := hm.2.1; omega) (Nat.le_refl _) ?_
      refine lv_istore_n (i := 3) (lv' := [(3, .int (iI (r16))), (0, .ref (ea E 0)), (1, .int (iI (a1))), (2, .int (iI (a2)))]) hx hb dX8_slide_34 rfl hl (by decide) rfl (fun ls hl => ?_)
      refine lv_iload_n hx hb dX8_slide_35 rfl (lv_at hl 0 rfl) ?_
      refine k_le (tgt := 82) hx hb dX8_slide_36 (by decide) hz17 (fun c18 => ?_) (fun c18 => ?_)
      · have h := h.1 c18
        refine lv_aload_n hx hb dX8_slide_82 rfl (lv_at hl 1 rfl) ?_
        refine q_getx (ci := 8) (C := RX8) (T := TX8) (N := 14) (j := 15) hx hb hts (fun _ h9 => List.mem_cons_of_mem _ (List.mem_append_left _ (List.mem_append_left _ (List.mem_append_left _ (List.mem_append_left _ (List.mem_append_left _ (List.mem_append_right _ h9))))))) hown hK hg 0 (by decide) rfl rfl (by decide) rfl 8 (by decide) (hts (.fieldLink RX8 68 "JoinMaps" "first" "LJoinMaps$Row;") (List.mem_cons_of_mem _ (List.mem_append_left _ (List.mem_append_left _ (List.mem_append_left _ (List.mem_append_left _ (List.mem_append_left _ (List.mem_append_left _ (List.mem_append_left _ (List.mem_of_getElem? (i := 1) rfl)))))))))) rfl rfl rfl dX8_slide_83 ?_
        refine lv_aload_n hx hb dX8_slide_86 rfl (lv_at hl 1 rfl) ?_
        refine q_getx (ci := 8) (C := RX8) (T := TX8) (N := 14) (j := 3) hx hb hts (fun _ h9 => List.mem_cons_of_mem _ (List.mem_append_left _ (List.mem_append_left _ (List.mem_append_left _ (List.mem_append_left _ (List.mem_append_left _ (List.mem_append_right _ h9))))))) hown hK hg 0 (by decide) rfl rfl (by decide) rfl 2 (by decide) (hts (.fieldLink RX8 27 "JoinMaps" "maps" "[LJoinMaps$Node;") (List.mem_cons_of_mem _ (List.mem_append_left _ (List.mem_append_left _ (List.mem_append_left _ (List.mem_append_left _ (List.mem_append_left _ (List.mem_append_left _ (List.mem_append_left _ (List.mem_of_getElem? (i := 0) rfl)))))))))) rfl rfl rfl dX8_slide_87 ?_
        refine lv_iload_n hx hb dX8_slide_90 rfl (lv_at hl 2 rfl) ?_
        obtain ⟨hP19, hP20, h⟩ := h
        refine q_aald (N := 6) hx hb hK hg 3 (by decide) rfl rfl hP19 hP20 (by decide) dX8_slide_91 ?_
        have hS21 : ∀ b, (sf s15 3 (a1 : Int).toNat) = some b → sS s15 b := fun b h0 => GS_F hg h0
        refine call_v (run_V (a := ea E 15) (As := [va_rf ((sf s15 3 (a1 : Int).toNat))]) (rest := []) ⟨hx, hb, hml, hown, hts⟩ (ctX6_take l E 15 (sf s15 3 (a1 : Int).toNat) s15 _ (by decide) hS21 h) (cwV 1 hts gX8_slide_X6_take rfl rfl rfl ⟨rfl, hdX6_take⟩ ⟨Nat.le_of_ble_eq_true rfl, Nat.le_of_ble_eq_true rfl⟩) hK hN hg (recv_x (ci := 6) (C := RX6) (T := TX6) (N := 3) hg hK (by decide) rfl (by decide) rfl) rfl hl.1 rfl (cat_sum _ (by simp)) dX8_slide_92 (show (sz s15 - sz σ) + 0 ≤ tp - sz σ ∧ 9 * (sz s15 - sz σ) + 0 ≤ 9 * (tp - sz σ) by have q1 := hm.2.1; have q2 := hm.2.2; omega)) hg (fun s22 H locs hm2 h hg => ?_)
        have hm := hm.tn hm2
        refine W_narrow hg hH (show sz s22 ≤ sz σ + (sz s22 - sz σ) by have q1 := hm.2.1; omega) (Nat.le_refl _) ?_
        refine lv_aload_n hx hb dX8_slide_95 rfl (lv_at hl 1 rfl) ?_
        refine q_getx (ci := 8) (C := RX8) (T := TX8) (N := 14) (j := 18) hx hb hts (fun _ h9 => List.mem_cons_of_mem _ (List.mem_append_left _ (List.mem_append_left _ (List.mem_append_left _ (List.mem_append_left _ (List.mem_append_left _ (List.mem_append_right _ h9))))))) hown hK hg 0 (by decide) rfl rfl (by decide) rfl 9 (by decide) (hts (.fieldLink RX8 72 "JoinMaps" "second" "LJoinMaps$Row;") (List.mem_cons_of_mem _ (List.mem_append_left _ (List.mem_append_left _ (List.mem_append_left _ (List.mem_append_left _ (List.mem_append_left _ (List.mem_append_left _ (List.mem_append_left _ (List.mem_of_getElem? (i := 2) rfl)))))))))) rfl rfl rfl dX8_slide_96 ?_
        refine call_v (run_V (a := ea E 18) (As := []) (rest := []) ⟨hx, hb, hml, hown, hts⟩ (ctX6_empty l E 18 s22 _ (by decide) h) (cwV 0 hts gX8_slide_X6_empty rfl rfl rfl ⟨rfl, hdX6_empty⟩ ⟨Nat.le_of_ble_eq_true rfl, Nat.le_of_ble_eq_true rfl⟩) hK hN hg (recv_x (ci := 6) (C := RX6) (T := TX6) (N := 3) hg hK (by decide) rfl (by decide) rfl) rfl hl.1 rfl (cat_sum _ (by simp)) dX8_slide_99 (show (sz s22 - sz σ) + 0 ≤ tp - sz σ ∧ 9 * (sz s22 - sz σ) + 0 ≤ 9 * (tp - sz σ) by have q1 := hm.2.1; have q2 := hm.2.2; omega)) hg (fun s25 H locs hm2 h hg => ?_)
        have hm := hm.tn hm2
        refine W_narrow hg hH (show sz s25 ≤ sz σ + (sz s25 - sz σ) by have q1 := hm.2.1; omega) (Nat.le_refl _) ?_
        refine lv_iconst (v := iI 0) hx hb dX8_slide_102 (by decide) ?_
        refine lv_istore (i := 4) (lv' := [(4, .int (iI (0))), (3, .int (iI (r16))), (0, .ref (ea E 0)), (1, .int (iI (a1))), (2, .int (iI (a2)))]) hx hb dX8_slide_103 hl (by decide) rfl (fun ls hl => ?_)
        obtain ⟨kk, h⟩ := h
        exact J105  kk (0) (s25) _ _ _ hg hm (lv_sub hl [2, 3, 4, 0] rfl) h
      · have h := h.2 c18
        refine lv_aload_n hx hb dX8_slide_39 rfl (lv_at hl 1 rfl) ?_
        refine q_getx (ci := 8) (C := RX8) (T := TX8) (N := 14) (j := 3) hx hb hts (fun _ h9 => List.mem_cons_of_mem _ (List.mem_append_left _ (List.mem_append_left _ (List.mem_append_left _ (List.mem_append_left _ (List.mem_append_left _ (List.mem_append_right _ h9))))))) hown hK hg 0 (by decide) rfl rfl (by decide) rfl 2 (by decide) (hts (.fieldLink RX8 27 "JoinMaps" "maps" "[LJoinMaps$Node;") (List.mem_cons_of_mem _ (List.mem_append_left _ (List.mem_append_left _ (List.mem_append_left _ (List.mem_append_left _ (List.mem_append_left _ (List.mem_append_left _ (List.mem_append_left _ (List.mem_of_getElem? (i := 0) rfl)))))))))) rfl rfl rfl dX8_slide_40 ?_
        refine lv_iload_n hx hb dX8_slide_43 rfl (lv_at hl 2 rfl) ?_
        obtain ⟨hP28, hP29, h⟩ := h
        refine q_aald (N := 6) hx hb hK hg 3 (by decide) rfl rfl hP28 hP29 (by decide) dX8_slide_44 ?_
        have hS30 : ∀ b, (sf s15 3 (a1 : Int).toNat) = some b → sS s15 b := fun b h0 => GS_F hg h0
        refine lv_iconst (v := iI 0) hx hb dX8_slide_45 (by decide) ?_
        refine call_i (run_S (As := [va_rf ((sf s15 3 (a1 : Int).toNat)), .int (iI (0))]) (rest := []) ⟨hx, hb, hml, hown, hts⟩ (ctX3_keyAt l E (sf s15 3 (a1 : Int).toNat) 0 s15 _ hS30 (by decide) h) (va_cwS 2 hts gX8_slide_X3_keyAt rfl rfl rfl hdX3_keyAt ⟨Nat.le_of_ble_eq_true rfl, Nat.le_of_ble_eq_true rfl⟩) hK hN hg rfl hl.1 rfl (cat_sum _ (by simp)) dX8_slide_46 (show (sz s15 - sz σ) + 0 ≤ tp - sz σ ∧ 9 * (sz s15 - sz σ) + 0 ≤ 9 * (tp - sz σ) by have q1 := hm.2.1; have q2 := hm.2.2; omega)) hg (fun r32 s31 H locs hz33 hm2 h hg => ?_)
        have hm := hm.tn hm2
        refine W_narrow hg hH (show sz s31 ≤ sz σ + (sz s31 - sz σ) by have q1 := hm.2.1; omega) (Nat.le_refl _) ?_
        refine lv_iload_n hx hb dX8_slide_49 rfl (lv_at hl 3 rfl) ?_
        refine q_iadd hx hb dX8_slide_50 ?_
        obtain ⟨hR34, h⟩ := h
        refine call_z (run_S (As := [.int (iI ((r32 + a2)))]) (rest := []) ⟨hx, hb, hml, hown, hts⟩ (ctX8_isKey l E (r32 + a2) s31 _ hR34 h) (va_cwS 1 hts gX8_slide_X8_isKey rfl rfl rfl hdX8_isKey ⟨Nat.le_of_ble_eq_true rfl, Nat.le_of_ble_eq_true rfl⟩) hK hN hg rfl hl.1 rfl (cat_sum _ (by simp)) dX8_slide_51 (show (sz s31 - sz σ) + 0 ≤ tp - sz σ ∧ 9 * (sz s31 - sz σ) + 0 ≤ 9 * (tp - sz σ) by have q1 := hm.2.1; have q2 := hm.2.2; omega)) hg (fun r36 s35 H locs hz37 hm2 h hg => ?_)
        have hm := hm.tn hm2
        refine W_narrow hg hH (show sz s35 ≤ sz σ + (sz s35 - sz σ) by have q1 := hm.2.1; omega) (Nat.le_refl _) ?_
        refine k_eq (tgt := 77) hx hb dX8_slide_54 (by decide) (z_R hz37) (fun c38 => ?_) (fun c38 => ?_)
        · have h := h.1 c38
          refine lv_aload_n hx hb dX8_slide_77 rfl (lv_at hl 1 rfl) ?_
          refine call_i (run_V (a := ea E 0) (As := []) (rest := []) ⟨hx, hb, hml, hown, hts⟩ (ctX8_no l E  s35 _  h) (cwV 0 hts gX8_slide_X8_no rfl rfl rfl ⟨rfl, hdX8_no⟩ ⟨Nat.le_of_ble_eq_true rfl, Nat.le_of_ble_eq_true rfl⟩) hK hN hg (recv_x (ci := 8) (C := RX8) (T := TX8) (N := 14) hg hK (by decide) rfl (by decide) rfl) rfl hl.1 rfl (cat_sum _ (by simp)) dX8_slide_78 (show (sz s35 - sz σ) + 0 ≤ tp - sz σ ∧ 9 * (sz s35 - sz σ) + 0 ≤ 9 * (tp - sz σ) by have q1 := hm.2.1; have q2 := hm.2.2; omega)) hg (fun r40 s39 H locs hz41 hm2 h hg => ?_)
          have hm := hm.tn hm2
          refine W_narrow hg hH (show sz s39 ≤ sz σ + (sz s39 - sz σ) by have q1 := hm.2.1; omega) (Nat.le_refl _) ?_
          refine W.widen (k := tp - sz σ) (n := 9 * (tp - sz σ)) (show sz s39 - sz σ ≤ _ by have q1 := hm.2.2; omega) (show 9 * (sz s39 - sz σ) ≤ _ by have q1 := hm.2.2; omega) ?_
          exact ret_i hx hb hr hlocks hg hz41 hm h dX8_slide_81
        · have h := h.2 c38
          refine lv_aload_n hx hb dX8_slide_57 rfl (lv_at hl 1 rfl) ?_
          refine q_getx (ci := 8) (C := RX8) (T := TX8) (N := 14) (j := 3) hx hb hts (fun _ h9 => List.mem_cons_of_mem _ (List.mem_append_left _ (List.mem_append_left _ (List.mem_append_left _ (List.mem_append_left _ (List.mem_append_left _ (List.mem_append_right _ h9))))))) hown hK hg 0 (by decide) rfl rfl (by decide) rfl 2 (by decide) (hts (.fieldLink RX8 27 "JoinMaps" "maps" "[LJoinMaps$Node;") (List.mem_cons_of_mem _ (List.mem_append_left _ (List.mem_append_left _ (List.mem_append_left _ (List.mem_append_left _ (List.mem_append_left _ (List.mem_append_left _ (List.mem_append_left _ (List.mem_of_getElem? (i := 0) rfl)))))))))) rfl rfl rfl dX8_slide_58 ?_
          refine lv_iload_n hx hb dX8_slide_61 rfl (lv_at hl 2 rfl) ?_
          obtain ⟨hP42, hP43, h⟩ := h
          refine q_aald (N := 6) hx hb hK hg 3 (by decide) rfl rfl hP42 hP43 (by decide) dX8_slide_62 ?_
          have hS44 : ∀ b, (sf s35 3 (a1 : Int).toNat) = some b → sS s35 b := fun b h0 => GS_F hg h0
          refine lv_iload_n hx hb dX8_slide_63 rfl (lv_at hl 0 rfl) ?_
          refine lv_iconst (v := iI 1) hx hb dX8_slide_64 (by decide) ?_
          refine q_isub hx hb dX8_slide_65 ?_
          obtain ⟨hR45, h⟩ := h
          refine call_i (run_S (As := [va_rf ((sf s35 3 (a1 : Int).toNat)), .int (iI ((r16 - 1)))]) (rest := []) ⟨hx, hb, hml, hown, hts⟩ (ctX3_keyAt l E (sf s35 3 (a1 : Int).toNat) (r16 - 1) s35 _ hS44 hR45 h) (va_cwS 2 hts gX8_slide_X3_keyAt rfl rfl rfl hdX3_keyAt ⟨Nat.le_of_ble_eq_true rfl, Nat.le_of_ble_eq_true rfl⟩) hK hN hg rfl hl.1 rfl (cat_sum _ (by simp)) dX8_slide_66 (show (sz s35 - sz σ) + 0 ≤ tp - sz σ ∧ 9 * (sz s35 - sz σ) + 0 ≤ 9 * (tp - sz σ) by have q1 := hm.2.1; have q2 := hm.2.2; omega)) hg (fun r47 s46 H locs hz48 hm2 h hg => ?_)
          have hm := hm.tn hm2
          refine W_narrow hg hH (show sz s46 ≤ sz σ + (sz s46 - sz σ) by have q1 := hm.2.1; omega) (Nat.le_refl _) ?_
          refine lv_iload_n hx hb dX8_slide_69 rfl (lv_at hl 3 rfl) ?_
          refine q_iadd hx hb dX8_slide_70 ?_
          obtain ⟨hR49, h⟩ := h
          refine call_z (run_S (As := [.int (iI ((r47 + a2)))]) (rest := []) ⟨hx, hb, hml, hown, hts⟩ (ctX8_isKey l E (r47 + a2) s46 _ hR49 h) (va_cwS 1 hts gX8_slide_X8_isKey rfl rfl rfl hdX8_isKey ⟨Nat.le_of_ble_eq_true rfl, Nat.le_of_ble_eq_true rfl⟩) hK hN hg rfl hl.1 rfl (cat_sum _ (by simp)) dX8_slide_71 (show (sz s46 - sz σ) + 0 ≤ tp - sz σ ∧ 9 * (sz s46 - sz σ) + 0 ≤ 9 * (tp - sz σ) by have q1 := hm.2.1; have q2 := hm.2.2; omega)) hg (fun r51 s50 H locs hz52 hm2 h hg => ?_)
          have hm := hm.tn hm2
          refine W_narrow hg hH (show sz s50 ≤ sz σ + (sz s50 - sz σ) by have q1 := hm.2.1; omega) (Nat.le_refl _) ?_
          refine k_ne (tgt := 82) hx hb dX8_slide_74 (by decide) (z_R hz52) (fun c53 => ?_) (fun c53 => ?_)
          · have h := h.1 c53
            refine lv_aload_n hx hb dX8_slide_82 rfl (lv_at hl 1 rfl) ?_
            refine q_getx (ci := 8) (C := RX8) (T := TX8) (N := 14) (j := 15) hx hb hts (fun _ h9 => List.mem_cons_of_mem _ (List.mem_append_left _ (List.mem_append_left _ (List.mem_append_left _ (List.mem_append_left _ (List.mem_append_left _ (List.mem_append_right _ h9))))))) hown hK hg 0 (by decide) rfl rfl (by decide) rfl 8 (by decide) (hts (.fieldLink RX8 68 "JoinMaps" "first" "LJoinMaps$Row;") (List.mem_cons_of_mem _ (List.mem_append_left _ (List.mem_append_left _ (List.mem_append_left _ (List.mem_append_left _ (List.mem_append_left _ (List.mem_append_left _ (List.mem_append_left _ (List.mem_of_getElem? (i := 1) rfl)))))))))) rfl rfl rfl dX8_slide_83 ?_
            refine lv_aload_n hx hb dX8_slide_86 rfl (lv_at hl 1 rfl) ?_
            refine q_getx (ci := 8) (C := RX8) (T := TX8) (N := 14) (j := 3) hx hb hts (fun _ h9 => List.mem_cons_of_mem _ (List.mem_append_left _ (List.mem_append_left _ (List.mem_append_left _ (List.mem_append_left _ (List.mem_append_left _ (List.mem_append_right _ h9))))))) hown hK hg 0 (by decide) rfl rfl (by decide) rfl 2 (by decide) (hts (.fieldLink RX8 27 "JoinMaps" "maps" "[LJoinMaps$Node;") (List.mem_cons_of_mem _ (List.mem_append_left _ (List.mem_append_left _ (List.mem_append_left _ (List.mem_append_left _ (List.mem_append_left _ (List.mem_append_left _ (List.mem_append_left _ (List.mem_of_getElem? (i := 0) rfl)))))))))) rfl rfl rfl dX8_slide_87 ?_
            refine lv_iload_n hx hb dX8_slide_90 rfl (lv_at hl 2 rfl) ?_
            obtain ⟨hP54, hP55, h⟩ := h
            refine q_aald (N := 6) hx hb hK hg 3 (by decide) rfl rfl hP54 hP55 (by decide) dX8_slide_91 ?_
            have hS56 : ∀ b, (sf s50 3 (a1 : Int).toNat) = some b → sS s50 b := fun b h0 => GS_F hg h0
            refine call_v (run_V (a := ea E 15) (As := [va_rf ((sf s50 3 (a1 : Int).toNat))]) (rest := []) ⟨hx, hb, hml, hown, hts⟩ (ctX6_take l E 15 (sf s50 3 (a1 : Int).toNat) s50 _ (by decide) hS56 h) (cwV 1 hts gX8_slide_X6_take rfl rfl rfl ⟨rfl, hdX6_take⟩ ⟨Nat.le_of_ble_eq_true rfl, Nat.le_of_ble_eq_true rfl⟩) hK hN hg (recv_x (ci := 6) (C := RX6) (T := TX6) (N := 3) hg hK (by decide) rfl (by decide) rfl) rfl hl.1 rfl (cat_sum _ (by simp)) dX8_slide_92 (show (sz s50 - sz σ) + 0 ≤ tp - sz σ ∧ 9 * (sz s50 - sz σ) + 0 ≤ 9 * (tp - sz σ) by have q1 := hm.2.1; have q2 := hm.2.2; omega)) hg (fun s57 H locs hm2 h hg => ?_)
            have hm := hm.tn hm2
            refine W_narrow hg hH (show sz s57 ≤ sz σ + (sz s57 - sz σ) by have q1 := hm.2.1; omega) (Nat.le_refl _) ?_
            refine lv_aload_n hx hb dX8_slide_95 rfl (lv_at hl 1 rfl) ?_
            refine q_getx (ci := 8) (C := RX8) (T := TX8) (N := 14) (j := 18) hx hb hts (fun _ h9 => List.mem_cons_of_mem _ (List.mem_append_left _ (List.mem_append_left _ (List.mem_append_left _ (List.mem_append_left _ (List.mem_append_left _ (List.mem_append_right _ h9))))))) hown hK hg 0 (by decide) rfl rfl (by decide) rfl 9 (by decide) (hts (.fieldLink RX8 72 "JoinMaps" "second" "LJoinMaps$Row;") (List.mem_cons_of_mem _ (List.mem_append_left _ (List.mem_append_left _ (List.mem_append_left _ (List.mem_append_left _ (List.mem_append_left _ (List.mem_append_left _ (List.mem_append_left _ (List.mem_of_getElem? (i := 2) rfl)))))))))) rfl rfl rfl dX8_slide_96 ?_
            refine call_v (run_V (a := ea E 18) (As := []) (rest := []) ⟨hx, hb, hml, hown, hts⟩ (ctX6_empty l E 18 s57 _ (by decide) h) (cwV 0 hts gX8_slide_X6_empty rfl rfl rfl ⟨rfl, hdX6_empty⟩ ⟨Nat.le_of_ble_eq_true rfl, Nat.le_of_ble_eq_true rfl⟩) hK hN hg (recv_x (ci := 6) (C := RX6) (T := TX6) (N := 3) hg hK (by decide) rfl (by decide) rfl) rfl hl.1 rfl (cat_sum _ (by simp)) dX8_slide_99 (show (sz s57 - sz σ) + 0 ≤ tp - sz σ ∧ 9 * (sz s57 - sz σ) + 0 ≤ 9 * (tp - sz σ) by have q1 := hm.2.1; have q2 := hm.2.2; omega)) hg (fun s60 H locs hm2 h hg => ?_)
            have hm := hm.tn hm2
            refine W_narrow hg hH (show sz s60 ≤ sz σ + (sz s60 - sz σ) by have q1 := hm.2.1; omega) (Nat.le_refl _) ?_
            refine lv_iconst (v := iI 0) hx hb dX8_slide_102 (by decide) ?_
            refine lv_istore (i := 4) (lv' := [(4, .int (iI (0))), (3, .int (iI (r16))), (0, .ref (ea E 0)), (1, .int (iI (a1))), (2, .int (iI (a2)))]) hx hb dX8_slide_103 hl (by decide) rfl (fun ls hl => ?_)
            obtain ⟨kk, h⟩ := h
            exact J105  kk (0) (s60) _ _ _ hg hm (lv_sub hl [2, 3, 4, 0] rfl) h
          · have h := h.2 c53
            refine lv_aload_n hx hb dX8_slide_77 rfl (lv_at hl 1 rfl) ?_
            refine call_i (run_V (a := ea E 0) (As := []) (rest := []) ⟨hx, hb, hml, hown, hts⟩ (ctX8_no l E  s50 _  h) (cwV 0 hts gX8_slide_X8_no rfl rfl rfl ⟨rfl, hdX8_no⟩ ⟨Nat.le_of_ble_eq_true rfl, Nat.le_of_ble_eq_true rfl⟩) hK hN hg (recv_x (ci := 8) (C := RX8) (T := TX8) (N := 14) hg hK (by decide) rfl (by decide) rfl) rfl hl.1 rfl (cat_sum _ (by simp)) dX8_slide_78 (show (sz s50 - sz σ) + 0 ≤ tp - sz σ ∧ 9 * (sz s50 - sz σ) + 0 ≤ 9 * (tp - sz σ) by have q1 := hm.2.1; have q2 := hm.2.2; omega)) hg (fun r64 s63 H locs hz65 hm2 h hg => ?_)
            have hm := hm.tn hm2
            refine W_narrow hg hH (show sz s63 ≤ sz σ + (sz s63 - sz σ) by have q1 := hm.2.1; omega) (Nat.le_refl _) ?_
            refine W.widen (k := tp - sz σ) (n := 9 * (tp - sz σ)) (show sz s63 - sz σ ≤ _ by have q1 := hm.2.2; omega) (show 9 * (sz s63 - sz σ) ≤ _ by have q1 := hm.2.2; omega) ?_
            exact ret_i hx hb hr hlocks hg hz65 hm h dX8_slide_81
    · have h := h.2 c11
      refine lv_aload_n hx hb dX8_slide_20 rfl (lv_at hl 0 rfl) ?_
      refine call_i (run_V (a := ea E 0) (As := []) (rest := []) ⟨hx, hb, hml, hown, hts⟩ (ctX8_bad l E  s8 _  h) (cwV 0 hts gX8_slide_X8_bad rfl rfl rfl ⟨rfl, hdX8_bad⟩ ⟨Nat.le_of_ble_eq_true rfl, Nat.le_of_ble_eq_true rfl⟩) hK hN hg (recv_x (ci := 8) (C := RX8) (T := TX8) (N := 14) hg hK (by decide) rfl (by decide) rfl) rfl hl.1 rfl (cat_sum _ (by simp)) dX8_slide_21 (show (sz s8 - sz σ) + 0 ≤ tp - sz σ ∧ 9 * (sz s8 - sz σ) + 0 ≤ 9 * (tp - sz σ) by have q1 := hm.2.1; have q2 := hm.2.2; omega)) hg (fun r67 s66 H locs hz68 hm2 h hg => ?_)
      have hm := hm.tn hm2
      refine W_narrow hg hH (show sz s66 ≤ sz σ + (sz s66 - sz σ) by have q1 := hm.2.1; omega) (Nat.le_refl _) ?_
      refine W.widen (k := tp - sz σ) (n := 9 * (tp - sz σ)) (show sz s66 - sz σ ≤ _ by have q1 := hm.2.2; omega) (show 9 * (sz s66 - sz σ) ≤ _ by have q1 := hm.2.2; omega) ?_
      exact ret_i hx hb hr hlocks hg hz68 hm h dX8_slide_24
theorem hdX8_zip : yX8_zip.cls ≠ "java/lang/invoke/MethodHandle" ∧ yX8_zip.cls ≠ "java/lang/invoke/VarHandle" ∧ (parseMethodDescriptor yX8_zip.desc).map (fun d => d.parameters.length) = some 3 := by decide +kernel
set_option maxRecDepth 100000 in
set_option maxHeartbeats 4000000 in
theorem ctX8_zip (l : Launch) (E : Ev) (tp : Nat) (a1 : Int) (a2 : Int) (a3 : Int) (σ : SS) (Q : Int → SS → Prop) (ha1 : R32 a1) (ha2 : R32 a2) (ha3 : R32 a3) (ht : sz σ ≤ tp) (h : wX8_zip tp a1 a2 a3 σ Q) : Met l yX8_zip wsX8_zip ({ frames := 95, cells := tp - sz σ, slots := 9 * (tp - sz σ), locals := 2565 } : Room) (Pc E σ [.ref (ea E 0), .int (iI (a1)), .int (iI (a2)), .int (iI (a3))]) (Qi E tp σ Q) (tp - sz σ) (9 * (tp - sz σ)) (Av E) := by
  rw [wX8_zip] at h
  refine Met.ofW (cc := cX8_zip) (maxL := 6) (ret := (some .int)) (by decide) rfl ?_
  intro p e s m args below meth c s₁ B hml hv
  obtain ⟨rfl, hH, hK, hN⟩ := hv
  have hx := B.exec
  have hb := B.bytes
  have hr := B.returns
  have hts := atoms_spec (ws := wsX8_zip) B.pre
  have hown : s.vm.findClass RX8 = some m.cls := findClass_of_methodNamed B.named
  have hlocks := B.notSynchronized
  have hg : GS E σ s s.heap [] := ⟨hH, va_S.rf⟩
  have hm : Mo tp σ σ := Mo.rf ht
  have hl := ent (vs := [.ref (ea E 0), .int (iI (a1)), .int (iI (a2)), .int (iI (a3))]) (n := 6) (cats_x (cats_i (cats_i (cats_i cats_nil)))) (Nat.le_of_ble_eq_true rfl)
  rw [lg_entry_eq]
  generalize (lg_sl ([.ref (ea E 0), .int (iI (a1)), .int (iI (a2)), .int (iI (a3))]) ++ List.replicate (6 - (lg_sl ([.ref (ea E 0), .int (iI (a1)), .int (iI (a2)), .int (iI (a3))])).length) Slot.unset).toArray = ls at hl ⊢
  have hl : lv_has ls 6 [(0, .ref (ea E 0)), (1, .int (iI (a1))), (2, .int (iI (a2))), (3, .int (iI (a3)))] := hl
  refine W_narrow hg hH (show sz σ ≤ sz σ + (sz σ - sz σ) by omega) (show 9 * (sz σ - sz σ) ≤ 9 * (sz σ - sz σ) from Nat.le_refl _) ?_
  have J59 : ∀ (k : Nat), ∀ (v4 : Int) (v5 : Int) (sL : SS) (H : Heap) (locs : List Loc) (ls : Array Slot), GS E sL s H locs → Mo tp σ sL → lv_has ls 6 [(0, .ref (ea E 0)), (1, .int (iI (a1))), (2, .int (iI (a2))), (3, .int (iI (a3))), (4, .int (iI (v4))), (5, .int (iI (v5)))] → wX8_zip_L59 tp a1 a2 a3 Q  k v4 v5 sL → W p l e (headSpec wsX8_zip ({ frames := 95, cells := tp - sz σ, slots := 9 * (tp - sz σ), locals := 2565 } : Room)).room s m (List.toArray [.ref (ea E 0), .int (iI (a1)), .int (iI (a2)), .int (iI (a3))]) below meth c H locs (sz sL - sz σ) (9 * (sz sL - sz σ)) (MQ below (Qi E tp σ Q) (List.toArray [.ref (ea E 0), .int (iI (a1)), .int (iI (a2)), .int (iI (a3))]) s (tp - sz σ) (9 * (tp - sz σ)) (Av E)) (F0 m 59 ls []) := by
    intro k
    induction k with
    | zero => intro v4 v5 sL H locs ls hg hm hl h; exact False.elim h
    | succ k ih =>
      intro v4 v5 sL H locs ls hg hm hl h
      rw [wX8_zip_L59] at h
      refine lv_iload hx hb dX8_zip_59 (lv_at hl 5 rfl) ?_
      refine lv_iload hx hb dX8_zip_61 (lv_at hl 4 rfl) ?_
      obtain ⟨hR38, hR39, h⟩ := h
      refine j_ge (tgt := 101) hx hb dX8_zip_63 (by decide) hR38 hR39 (fun c40 => ?_) (fun c40 => ?_)
      · have h := h.1 c40
        refine lv_aload_n hx hb dX8_zip_101 rfl (lv_at hl 0 rfl) ?_
        refine lv_iload_n hx hb dX8_zip_102 rfl (lv_at hl 3 rfl) ?_
        refine lv_aload_n hx hb dX8_zip_103 rfl (lv_at hl 0 rfl) ?_
        refine q_getx (ci := 8) (C := RX8) (T := TX8) (N := 14) (j := 18) hx hb hts (fun _ h9 => List.mem_cons_of_mem _ (List.mem_append_left _ (List.mem_append_left _ (List.mem_append_left _ (List.mem_append_left _ (List.mem_append_left _ (List.mem_append_right _ h9))))))) hown hK hg 0 (by decide) rfl rfl (by decide) rfl 9 (by decide) (hts (.fieldLink RX8 72 "JoinMaps" "second" "LJoinMaps$Row;") (List.mem_cons_of_mem _ (List.mem_append_left _ (List.mem_append_left _ (List.mem_append_left _ (List.mem_append_left _ (List.mem_append_left _ (List.mem_append_left _ (List.mem_append_left _ (List.mem_of_getElem? (i := 5) rfl)))))))))) rfl rfl rfl dX8_zip_104 ?_
        refine call_i (run_V (a := ea E 0) (As := [.int (iI (a3)), .ref (ea E 18)]) (rest := []) ⟨hx, hb, hml, hown, hts⟩ (ctX8_settleRow l E tp a3 18 sL _ ha3 (by decide) hm.2.2 h) (cwV 2 hts gX8_zip_X8_settleRow rfl rfl rfl ⟨rfl, hdX8_settleRow⟩ ⟨Nat.le_of_ble_eq_true rfl, Nat.le_of_ble_eq_true rfl⟩) hK hN hg (recv_x (ci := 8) (C := RX8) (T := TX8) (N := 14) hg hK (by decide) rfl (by decide) rfl) rfl hl.1 rfl (cat_sum _ (by simp)) dX8_zip_107 (show (sz sL - sz σ) + (tp - sz sL) ≤ tp - sz σ ∧ 9 * (sz sL - sz σ) + 9 * (tp - sz sL) ≤ 9 * (tp - sz σ) by have q1 := hm.2.1; have q2 := hm.2.2; omega)) hg (fun r42 s41 H locs hz43 hm2 h hg => ?_)
        have hm := hm.ta hm2
        refine W_narrow hg hH (show sz s41 ≤ sz σ + (sz s41 - sz σ) by have q1 := hm.2.1; omega) (Nat.le_refl _) ?_
        refine W.widen (k := tp - sz σ) (n := 9 * (tp - sz σ)) (show sz s41 - sz σ ≤ _ by have q1 := hm.2.2; omega) (show 9 * (sz s41 - sz σ) ≤ _ by have q1 := hm.2.2; omega) ?_
        exact ret_i hx hb hr hlocks hg hz43 hm h dX8_zip_110
      · have h := h.2 c40
        refine lv_aload_n hx hb dX8_zip_66 rfl (lv_at hl 0 rfl) ?_
        refine q_getx (ci := 8) (C := RX8) (T := TX8) (N := 14) (j := 18) hx hb hts (fun _ h9 => List.mem_cons_of_mem _ (List.mem_append_left _ (List.mem_append_left _ (List.mem_append_left _ (List.mem_append_left _ (List.mem_append_left _ (List.mem_append_right _ h9))))))) hown hK hg 0 (by decide) rfl rfl (by decide) rfl 9 (by decide) (hts (.fieldLink RX8 72 "JoinMaps" "second" "LJoinMaps$Row;") (List.mem_cons_of_mem _ (List.mem_append_left _ (List.mem_append_left _ (List.mem_append_left _ (List.mem_append_left _ (List.mem_append_left _ (List.mem_append_left _ (List.mem_append_left _ (List.mem_of_getElem? (i := 5) rfl)))))))))) rfl rfl rfl dX8_zip_67 ?_
        refine lv_aload_n hx hb dX8_zip_70 rfl (lv_at hl 0 rfl) ?_
        refine q_getx (ci := 8) (C := RX8) (T := TX8) (N := 14) (j := 3) hx hb hts (fun _ h9 => List.mem_cons_of_mem _ (List.mem_append_left _ (List.mem_append_left _ (List.mem_append_left _ (List.mem_append_left _ (List.mem_append_left _ (List.mem_append_right _ h9))))))) hown hK hg 0 (by decide) rfl rfl (by decide) rfl 2 (by decide) (hts (.fieldLink RX8 27 "JoinMaps" "maps" "[LJoinMaps$Node;") (List.mem_cons_of_mem _ (List.mem_append_left _ (List.mem_append_left _ (List.mem_append_left _ (List.mem_append_left _ (List.mem_append_left _ (List.mem_append_left _ (List.mem_append_left _ (List.mem_of_getElem? (i := 0) rfl)))))))))) rfl rfl rfl dX8_zip_71 ?_
        refine lv_iload_n hx hb dX8_zip_74 rfl (lv_at hl 1 rfl) ?_
        obtain ⟨hP44, hP45, h⟩ := h
        refine q_aald (N := 6) hx hb hK hg 3 (by decide) rfl rfl hP44 hP45 (by decide) dX8_zip_75 ?_
        have hS46 : ∀ b, (sf sL 3 (a1 : Int).toNat) = some b → sS sL b := fun b h0 => GS_F hg h0
        refine lv_iload hx hb dX8_zip_76 (lv_at hl 5 rfl) ?_
        refine call_i (run_S (As := [va_rf ((sf sL 3 (a1 : Int).toNat)), .int (iI (v5))]) (rest := [.ref (ea E 18)]) ⟨hx, hb, hml, hown, hts⟩ (ctX3_keyAt l E (sf sL 3 (a1 : Int).toNat) v5 sL _ hS46 hR38 h) (va_cwS 2 hts gX8_zip_X3_keyAt rfl rfl rfl hdX3_keyAt ⟨Nat.le_of_ble_eq_true rfl, Nat.le_of_ble_eq_true rfl⟩) hK hN hg rfl hl.1 rfl (cat_sum _ (by simp)) dX8_zip_78 (show (sz sL - sz σ) + 0 ≤ tp - sz σ ∧ 9 * (sz sL - sz σ) + 0 ≤ 9 * (tp - sz σ) by have q1 := hm.2.1; have q2 := hm.2.2; omega)) hg (fun r48 s47 H locs hz49 hm2 h hg => ?_)
        have hm := hm.tn hm2
        refine W_narrow hg hH (show sz s47 ≤ sz σ + (sz s47 - sz σ) by have q1 := hm.2.1; omega) (Nat.le_refl _) ?_
        refine lv_aload_n hx hb dX8_zip_81 rfl (lv_at hl 0 rfl) ?_
        refine q_getx (ci := 8) (C := RX8) (T := TX8) (N := 14) (j := 3) hx hb hts (fun _ h9 => List.mem_cons_of_mem _ (List.mem_append_left _ (List.mem_append_left _ (List.mem_append_left _ (List.mem_append_left _ (List.mem_append_left _ (List.mem_append_right _ h9))))))) hown hK hg 0 (by decide) rfl rfl (by decide) rfl 2 (by decide) (hts (.fieldLink RX8 27 "JoinMaps" "maps" "[LJoinMaps$Node;") (List.mem_cons_of_mem _ (List.mem_append_left _ (List.mem_append_left _ (List.mem_append_left _ (List.mem_append_left _ (List.mem_append_left _ (List.mem_append_left _ (List.mem_append_left _ (List.mem_of_getElem? (i := 0) rfl)))))))))) rfl rfl rfl dX8_zip_82 ?_
        refine lv_iload_n hx hb dX8_zip_85 rfl (lv_at hl 2 rfl) ?_
        obtain ⟨hP50, hP51, h⟩ := h
        refine q_aald (N := 6) hx hb hK hg 3 (by decide) rfl rfl hP50 hP51 (by decide) dX8_zip_86 ?_
        have hS52 : ∀ b, (sf s47 3 (a2 : Int).toNat) = some b → sS s47 b := fun b h0 => GS_F hg h0
        refine lv_iload hx hb dX8_zip_87 (lv_at hl 5 rfl) ?_
        refine call_i (run_S (As := [va_rf ((sf s47 3 (a2 : Int).toNat)), .int (iI (v5))]) (rest := [.int (iI (r48)), .ref (ea E 18)]) ⟨hx, hb, hml, hown, hts⟩ (ctX3_keyAt l E (sf s47 3 (a2 : Int).toNat) v5 s47 _ hS52 hR38 h) (va_cwS 2 hts gX8_zip_X3_keyAt rfl rfl rfl hdX3_keyAt ⟨Nat.le_of_ble_eq_true rfl, Nat.le_of_ble_eq_true rfl⟩) hK hN hg rfl hl.1 rfl (cat_sum _ (by simp)) dX8_zip_89 (show (sz s47 - sz σ) + 0 ≤ tp - sz σ ∧ 9 * (sz s47 - sz σ) + 0 ≤ 9 * (tp - sz σ) by have q1 := hm.2.1; have q2 := hm.2.2; omega)) hg (fun r54 s53 H locs hz55 hm2 h hg => ?_)
        have hm := hm.tn hm2
        refine W_narrow hg hH (show sz s53 ≤ sz σ + (sz s53 - sz σ) by have q1 := hm.2.1; omega) (Nat.le_refl _) ?_
        refine call_v (run_V (a := ea E 18) (As := [.int (iI (r48)), .int (iI (r54))]) (rest := []) ⟨hx, hb, hml, hown, hts⟩ (ctX6_add l E 18 r48 r54 s53 _ (by decide) hz49 hz55 h) (cwV 2 hts gX8_zip_X6_add rfl rfl rfl ⟨rfl, hdX6_add⟩ ⟨Nat.le_of_ble_eq_true rfl, Nat.le_of_ble_eq_true rfl⟩) hK hN hg (recv_x (ci := 6) (C := RX6) (T := TX6) (N := 3) hg hK (by decide) rfl (by decide) rfl) rfl hl.1 rfl (cat_sum _ (by simp)) dX8_zip_92 (show (sz s53 - sz σ) + 0 ≤ tp - sz σ ∧ 9 * (sz s53 - sz σ) + 0 ≤ 9 * (tp - sz σ) by have q1 := hm.2.1; have q2 := hm.2.2; omega)) hg (fun s56 H locs hm2 h hg => ?_)
        have hm := hm.tn hm2
        refine W_narrow hg hH (show sz s56 ≤ sz σ + (sz s56 - sz σ) by have q1 := hm.2.1; omega) (Nat.le_refl _) ?_
        refine lv_iinc (v := iI (v5 + 1)) (lv' := [(5, .int (iI (v5 + 1))), (0, .ref (ea E 0)), (1, .int (iI (a1))), (2, .int (iI (a2))), (3, .int (iI (a3))), (4, .int (iI (v4)))]) hx hb dX8_zip_95 hl (k := 5) rfl (iI_add _ _) (by decide) rfl (fun ls hl => ?_)
        refine lv_goto (tgt := 59) hx hb dX8_zip_98 (by decide) ?_
        exact ih (v4) (v5 + 1) (s56) _ _ _ hg hm (lv_sub hl [1, 2, 3, 4, 5, 0] rfl) h
  refine lv_iload_n hx hb dX8_zip_0 rfl (lv_at hl 1 rfl) ?_
  refine call_z (run_S (As := [.int (iI (a1))]) (rest := []) ⟨hx, hb, hml, hown, hts⟩ (ctX8_isMap l E a1 σ _ ha1 h) (va_cwS 1 hts gX8_zip_X8_isMap rfl rfl rfl hdX8_isMap ⟨Nat.le_of_ble_eq_true rfl, Nat.le_of_ble_eq_true rfl⟩) hK hN hg rfl hl.1 rfl (cat_sum _ (by simp)) dX8_zip_1 (show (sz σ - sz σ) + 0 ≤ tp - sz σ ∧ 9 * (sz σ - sz σ) + 0 ≤ 9 * (tp - sz σ) by have q1 := hm.2.1; have q2 := hm.2.2; omega)) hg (fun r2 s1 H locs hz3 hm2 h hg => ?_)
  have hm := hm.tn hm2
  refine W_narrow hg hH (show sz s1 ≤ sz σ + (sz s1 - sz σ) by have q1 := hm.2.1; omega) (Nat.le_refl _) ?_
  refine k_eq (tgt := 21) hx hb dX8_zip_4 (by decide) (z_R hz3) (fun c4 => ?_) (fun c4 => ?_)
  · have h := h.1 c4
    refine lv_aload_n hx hb dX8_zip_21 rfl (lv_at hl 0 rfl) ?_
    refine call_i (run_V (a := ea E 0) (As := []) (rest := []) ⟨hx, hb, hml, hown, hts⟩ (ctX8_bad l E  s1 _  h) (cwV 0 hts gX8_zip_X8_bad rfl rfl rfl ⟨rfl, hdX8_bad⟩ ⟨Nat.le_of_ble_eq_true rfl, Nat.le_of_ble_eq_true rfl⟩) hK hN hg (recv_x (ci := 8) (C := RX8) (T := TX8) (N := 14) hg hK (by decide) rfl (by decide) rfl) rfl hl.1 rfl (cat_sum _ (by simp)) dX8_zip_22 (show (sz s1 - sz σ) + 0 ≤ tp - sz σ ∧ 9 * (sz s1 - sz σ) + 0 ≤ 9 * (tp - sz σ) by have q1 := hm.2.1; have q2 := hm.2.2; omega)) hg (fun r6 s5 H locs hz7 hm2 h hg => ?_)
    have hm := hm.tn hm2
    refine W_narrow hg hH (show sz s5 ≤ sz σ + (sz s5 - sz σ) by have q1 := hm.2.1; omega) (Nat.le_refl _) ?_
    refine W.widen (k := tp - sz σ) (n := 9 * (tp - sz σ)) (show sz s5 - sz σ ≤ _ by have q1 := hm.2.2; omega) (show 9 * (sz s5 - sz σ) ≤ _ by have q1 := hm.2.2; omega) ?_
    exact ret_i hx hb hr hlocks hg hz7 hm h dX8_zip_25
  · have h := h.2 c4
    refine lv_iload_n hx hb dX8_zip_7 rfl (lv_at hl 2 rfl) ?_
    refine call_z (run_S (As := [.int (iI (a2))]) (rest := []) ⟨hx, hb, hml, hown, hts⟩ (ctX8_isMap l E a2 s1 _ ha2 h) (va_cwS 1 hts gX8_zip_X8_isMap rfl rfl rfl hdX8_isMap ⟨Nat.le_of_ble_eq_true rfl, Nat.le_of_ble_eq_true rfl⟩) hK hN hg rfl hl.1 rfl (cat_sum _ (by simp)) dX8_zip_8 (show (sz s1 - sz σ) + 0 ≤ tp - sz σ ∧ 9 * (sz s1 - sz σ) + 0 ≤ 9 * (tp - sz σ) by have q1 := hm.2.1; have q2 := hm.2.2; omega)) hg (fun r9 s8 H locs hz10 hm2 h hg => ?_)
    have hm := hm.tn hm2
    refine W_narrow hg hH (show sz s8 ≤ sz σ + (sz s8 - sz σ) by have q1 := hm.2.1; omega) (Nat.le_refl _) ?_
    refine k_eq (tgt := 21) hx hb dX8_zip_11 (by decide) (z_R hz10) (fun c11 => ?_) (fun c11 => ?_)
    · have h := h.1 c11
      refine lv_aload_n hx hb dX8_zip_21 rfl (lv_at hl 0 rfl) ?_
      refine call_i (run_V (a := ea E 0) (As := []) (rest := []) ⟨hx, hb, hml, hown, hts⟩ (ctX8_bad l E  s8 _  h) (cwV 0 hts gX8_zip_X8_bad rfl rfl rfl ⟨rfl, hdX8_bad⟩ ⟨Nat.le_of_ble_eq_true rfl, Nat.le_of_ble_eq_true rfl⟩) hK hN hg (recv_x (ci := 8) (C := RX8) (T := TX8) (N := 14) hg hK (by decide) rfl (by decide) rfl) rfl hl.1 rfl (cat_sum _ (by simp)) dX8_zip_22 (show (sz s8 - sz σ) + 0 ≤ tp - sz σ ∧ 9 * (sz s8 - sz σ) + 0 ≤ 9 * (tp - sz σ) by have q1 := hm.2.1; have q2 := hm.2.2; omega)) hg (fun r13 s12 H locs hz14 hm2 h hg => ?_)
      have hm := hm.tn hm2
      refine W_narrow hg hH (show sz s12 ≤ sz σ + (sz s12 - sz σ) by have q1 := hm.2.1; omega) (Nat.le_refl _) ?_
      refine W.widen (k := tp - sz σ) (n := 9 * (tp - sz σ)) (show sz s12 - sz σ ≤ _ by have q1 := hm.2.2; omega) (show 9 * (sz s12 - sz σ) ≤ _ by have q1 := hm.2.2; omega) ?_
      exact ret_i hx hb hr hlocks hg hz14 hm h dX8_zip_25
    · have h := h.2 c11
      refine lv_iload_n hx hb dX8_zip_14 rfl (lv_at hl 3 rfl) ?_
      refine call_z (run_S (As := [.int (iI (a3))]) (rest := []) ⟨hx, hb, hml, hown, hts⟩ (ctX8_isMap l E a3 s8 _ ha3 h) (va_cwS 1 hts gX8_zip_X8_isMap rfl rfl rfl hdX8_isMap ⟨Nat.le_of_ble_eq_true rfl, Nat.le_of_ble_eq_true rfl⟩) hK hN hg rfl hl.1 rfl (cat_sum _ (by simp)) dX8_zip_15 (show (sz s8 - sz σ) + 0 ≤ tp - sz σ ∧ 9 * (sz s8 - sz σ) + 0 ≤ 9 * (tp - sz σ) by have q1 := hm.2.1; have q2 := hm.2.2; omega)) hg (fun r16 s15 H locs hz17 hm2 h hg => ?_)
      have hm := hm.tn hm2
      refine W_narrow hg hH (show sz s15 ≤ sz σ + (sz s15 - sz σ) by have q1 := hm.2.1; omega) (Nat.le_refl _) ?_
      refine k_ne (tgt := 26) hx hb dX8_zip_18 (by decide) (z_R hz17) (fun c18 => ?_) (fun c18 => ?_)
      · have h := h.1 c18
        refine lv_aload_n hx hb dX8_zip_26 rfl (lv_at hl 0 rfl) ?_
        refine q_getx (ci := 8) (C := RX8) (T := TX8) (N := 14) (j := 3) hx hb hts (fun _ h9 => List.mem_cons_of_mem _ (List.mem_append_left _ (List.mem_append_left _ (List.mem_append_left _ (List.mem_append_left _ (List.mem_append_left _ (List.mem_append_right _ h9))))))) hown hK hg 0 (by decide) rfl rfl (by decide) rfl 2 (by decide) (hts (.fieldLink RX8 27 "JoinMaps" "maps" "[LJoinMaps$Node;") (List.mem_cons_of_mem _ (List.mem_append_left _ (List.mem_append_left _ (List.mem_append_left _ (List.mem_append_left _ (List.mem_append_left _ (List.mem_append_left _ (List.mem_append_left _ (List.mem_of_getElem? (i := 0) rfl)))))))))) rfl rfl rfl dX8_zip_27 ?_
        refine lv_iload_n hx hb dX8_zip_30 rfl (lv_at hl 1 rfl) ?_
        obtain ⟨hP19, hP20, h⟩ := h
        refine q_aald (N := 6) hx hb hK hg 3 (by decide) rfl rfl hP19 hP20 (by decide) dX8_zip_31 ?_
        have hS21 : ∀ b, (sf s15 3 (a1 : Int).toNat) = some b → sS s15 b := fun b h0 => GS_F hg h0
        refine call_i (run_S (As := [va_rf ((sf s15 3 (a1 : Int).toNat))]) (rest := []) ⟨hx, hb, hml, hown, hts⟩ (ctX3_countOf l E (sf s15 3 (a1 : Int).toNat) s15 _ hS21 h) (va_cwS 1 hts gX8_zip_X3_countOf rfl rfl rfl hdX3_countOf ⟨Nat.le_of_ble_eq_true rfl, Nat.le_of_ble_eq_true rfl⟩) hK hN hg rfl hl.1 rfl (cat_sum _ (by simp)) dX8_zip_32 (show (sz s15 - sz σ) + 0 ≤ tp - sz σ ∧ 9 * (sz s15 - sz σ) + 0 ≤ 9 * (tp - sz σ) by have q1 := hm.2.1; have q2 := hm.2.2; omega)) hg (fun r23 s22 H locs hz24 hm2 h hg => ?_)
        have hm := hm.tn hm2
        refine W_narrow hg hH (show sz s22 ≤ sz σ + (sz s22 - sz σ) by have q1 := hm.2.1; omega) (Nat.le_refl _) ?_
        refine lv_aload_n hx hb dX8_zip_35 rfl (lv_at hl 0 rfl) ?_
        refine q_getx (ci := 8) (C := RX8) (T := TX8) (N := 14) (j := 3) hx hb hts (fun _ h9 => List.mem_cons_of_mem _ (List.mem_append_left _ (List.mem_append_left _ (List.mem_append_left _ (List.mem_append_left _ (List.mem_append_left _ (List.mem_append_right _ h9))))))) hown hK hg 0 (by decide) rfl rfl (by decide) rfl 2 (by decide) (hts (.fieldLink RX8 27 "JoinMaps" "maps" "[LJoinMaps$Node;") (List.mem_cons_of_mem _ (List.mem_append_left _ (List.mem_append_left _ (List.mem_append_left _ (List.mem_append_left _ (List.mem_append_left _ (List.mem_append_left _ (List.mem_append_left _ (List.mem_of_getElem? (i := 0) rfl)))))))))) rfl rfl rfl dX8_zip_36 ?_
        refine lv_iload_n hx hb dX8_zip_39 rfl (lv_at hl 2 rfl) ?_
        obtain ⟨hP25, hP26, h⟩ := h
        refine q_aald (N := 6) hx hb hK hg 3 (by decide) rfl rfl hP25 hP26 (by decide) dX8_zip_40 ?_
        have hS27 : ∀ b, (sf s22 3 (a2 : Int).toNat) = some b → sS s22 b := fun b h0 => GS_F hg h0
        refine call_i (run_S (As := [va_rf ((sf s22 3 (a2 : Int).toNat))]) (rest := [.int (iI (r23))]) ⟨hx, hb, hml, hown, hts⟩ (ctX3_countOf l E (sf s22 3 (a2 : Int).toNat) s22 _ hS27 h) (va_cwS 1 hts gX8_zip_X3_countOf rfl rfl rfl hdX3_countOf ⟨Nat.le_of_ble_eq_true rfl, Nat.le_of_ble_eq_true rfl⟩) hK hN hg rfl hl.1 rfl (cat_sum _ (by simp)) dX8_zip_41 (show (sz s22 - sz σ) + 0 ≤ tp - sz σ ∧ 9 * (sz s22 - sz σ) + 0 ≤ 9 * (tp - sz σ) by have q1 := hm.2.1; have q2 := hm.2.2; omega)) hg (fun r29 s28 H locs hz30 hm2 h hg => ?_)
        have hm := hm.tn hm2
        refine W_narrow hg hH (show sz s28 ≤ sz σ + (sz s28 - sz σ) by have q1 := hm.2.1; omega) (Nat.le_refl _) ?_
        refine q_min hx hb (by rw [hml]; exact hl.1.symm) hown (hts (.methodLink RX8 206 Lib.Math.min.name) (List.mem_cons_of_mem _ (List.mem_append_left _ (List.mem_append_left _ (List.mem_append_left _ (List.mem_append_left _ (List.mem_append_left _ (List.mem_append_left _ (List.mem_append_left _ (List.mem_of_getElem? (i := 1) rfl)))))))))) (hts (.static Lib.Math.min.name) (List.mem_cons_of_mem _ (List.mem_append_left _ (List.mem_append_left _ (List.mem_append_left _ (List.mem_append_left _ (List.mem_append_left _ (List.mem_append_left _ (List.mem_append_left _ (List.mem_of_getElem? (i := 2) rfl)))))))))) (hts (.initialized "java/lang/Math") (List.mem_cons_of_mem _ (List.mem_append_left _ (List.mem_append_left _ (List.mem_append_left _ (List.mem_append_left _ (List.mem_append_left _ (List.mem_append_left _ (List.mem_append_left _ (List.mem_of_getElem? (i := 3) rfl)))))))))) (hts (.code Lib.Math.min.name Lib.Math.min.code 2 (some .int)) (List.mem_cons_of_mem _ (List.mem_append_left _ (List.mem_append_left _ (List.mem_append_left _ (List.mem_append_left _ (List.mem_append_left _ (List.mem_append_left _ (List.mem_append_left _ (List.mem_of_getElem? (i := 4) rfl)))))))))) (Nat.le_of_ble_eq_true rfl) (by simp) (Nat.le_of_ble_eq_true rfl) (show (sz s28 - sz σ) ≤ tp - sz σ by have q1 := hm.2.1; have q2 := hm.2.2; omega) (show 9 * (sz s28 - sz σ) ≤ 9 * (tp - sz σ) by have q1 := hm.2.1; have q2 := hm.2.2; omega) hz24 hz30 dX8_zip_44 ?_
        have hR31 : R32 (min r23 r29) := by have q1 := hz24; have q2 := hz30; omega
        refine lv_istore (i := 4) (lv' := [(4, .int (iI ((min r23 r29)))), (0, .ref (ea E 0)), (1, .int (iI (a1))), (2, .int (iI (a2))), (3, .int (iI (a3)))]) hx hb dX8_zip_47 hl (by decide) rfl (fun ls hl => ?_)
        refine lv_aload_n hx hb dX8_zip_49 rfl (lv_at hl 1 rfl) ?_
        refine q_getx (ci := 8) (C := RX8) (T := TX8) (N := 14) (j := 18) hx hb hts (fun _ h9 => List.mem_cons_of_mem _ (List.mem_append_left _ (List.mem_append_left _ (List.mem_append_left _ (List.mem_append_left _ (List.mem_append_left _ (List.mem_append_right _ h9))))))) hown hK hg 0 (by decide) rfl rfl (by decide) rfl 9 (by decide) (hts (.fieldLink RX8 72 "JoinMaps" "second" "LJoinMaps$Row;") (List.mem_cons_of_mem _ (List.mem_append_left _ (List.mem_append_left _ (List.mem_append_left _ (List.mem_append_left _ (List.mem_append_left _ (List.mem_append_left _ (List.mem_append_left _ (List.mem_of_getElem? (i := 5) rfl)))))))))) rfl rfl rfl dX8_zip_50 ?_
        refine call_v (run_V (a := ea E 18) (As := []) (rest := []) ⟨hx, hb, hml, hown, hts⟩ (ctX6_empty l E 18 s28 _ (by decide) h) (cwV 0 hts gX8_zip_X6_empty rfl rfl rfl ⟨rfl, hdX6_empty⟩ ⟨Nat.le_of_ble_eq_true rfl, Nat.le_of_ble_eq_true rfl⟩) hK hN hg (recv_x (ci := 6) (C := RX6) (T := TX6) (N := 3) hg hK (by decide) rfl (by decide) rfl) rfl hl.1 rfl (cat_sum _ (by simp)) dX8_zip_53 (show (sz s28 - sz σ) + 0 ≤ tp - sz σ ∧ 9 * (sz s28 - sz σ) + 0 ≤ 9 * (tp - sz σ) by have q1 := hm.2.1; have q2 := hm.2.2; omega)) hg (fun s32 H locs hm2 h hg => ?_)
        have hm := hm.tn hm2
        refine W_narrow hg hH (show sz s32 ≤ sz σ + (sz s32 - sz σ) by have q1 := hm.2.1; omega) (Nat.le_refl _) ?_
        refine lv_iconst (v := iI 0) hx hb dX8_zip_56 (by decide) ?_
        refine lv_istore (i := 5) (lv' := [(5, .int (iI (0))), (4, .int (iI ((min r23 r29)))), (0, .ref (ea E 0)), (1, .int (iI (a1))), (2, .int (iI (a2))), (3, .int (iI (a3)))]) hx hb dX8_zip_57 hl (by decide) rfl (fun ls hl => ?_)
        obtain ⟨kk, h⟩ := h
        exact J59  kk ((min r23 r29)) (0) (s32) _ _ _ hg hm (lv_sub hl [2, 3, 4, 5, 1, 0] rfl) h
      · have h := h.2 c18
        refine lv_aload_n hx hb dX8_zip_21 rfl (lv_at hl 0 rfl) ?_
        refine call_i (run_V (a := ea E 0) (As := []) (rest := []) ⟨hx, hb, hml, hown, hts⟩ (ctX8_bad l E  s15 _  h) (cwV 0 hts gX8_zip_X8_bad rfl rfl rfl ⟨rfl, hdX8_bad⟩ ⟨Nat.le_of_ble_eq_true rfl, Nat.le_of_ble_eq_true rfl⟩) hK hN hg (recv_x (ci := 8) (C := RX8) (T := TX8) (N := 14) hg hK (by decide) rfl (by decide) rfl) rfl hl.1 rfl (cat_sum _ (by simp)) dX8_zip_22 (show (sz s15 - sz σ) + 0 ≤ tp - sz σ ∧ 9 * (sz s15 - sz σ) + 0 ≤ 9 * (tp - sz σ) by have q1 := hm.2.1; have q2 := hm.2.2; omega)) hg (fun r36 s35 H locs hz37 hm2 h hg => ?_)
        have hm := hm.tn hm2
        refine W_narrow hg hH (show sz s35 ≤ sz σ + (sz s35 - sz σ) by have q1 := hm.2.1; omega) (Nat.le_refl _) ?_
        refine W.widen (k := tp - sz σ) (n := 9 * (tp - sz σ)) (show sz s35 - sz σ ≤ _ by have q1 := hm.2.2; omega) (show 9 * (sz s35 - sz σ) ≤ _ by have q1 := hm.2.2; omega) ?_
        exact ret_i hx hb hr hlocks hg hz37 hm h dX8_zip_25
