set_option maxRecDepth 100000 in
set_option maxHeartbeats 4000000 in
theorem lc_top {p : Program} {l : Launch} {e : Env} {s : State} {m : MethodId} {below : List Frame} {meth : Method} {c : Code} {H : Heap} {locs : List Loc} {ls : Array Slot} {b L i n : Nat} {xs : Nat → Int32} {E : Ev} {σ : SS} (X : LX p s m meth c b L xs E) (hi : i + 5 ≤ L) (hn : n ≤ 1000) (hg : GS E σ s H locs) (ht : sz σ ≤ tpE E) (h : LPz (ez E) n σ) (hl : lv_has ls 4 (lvL E b i)) (kk : LK p l e s m below meth c b E n ls) : W p l e room_1 s m #[Value.ref b] below meth c H locs (39 + (sz σ - ez E)) (19543 + 9 * (sz σ - ez E)) (lw_Z below #[Value.ref b] s) (F0 m 635 ls []) := by
  obtain ⟨hx, hb, hr, hml, hown, hts, hX, hbl, hlocks, hL, hK, hN, hE0, hes, hez, hez0⟩ := id X
  have hq := lp_top (x1 := (xs (i + 1)).toInt) (x2 := (xs (i + 2)).toInt) (tp := tpE E) (n := n) (hBE E) hn h
  refine lv_aload_n hx hb dL_law_635 rfl (lv_at hl 1 rfl) ?_
  refine l_arg (k := 1) hx hb hX hbl hE0 hg hL (by omega) hl dL_law_636 dL_law_637 dL_law_638 dL_law_639 dL_law_640 ?_
  refine l_arg (k := 2) hx hb hX hbl hE0 hg hL (by omega) hl dL_law_641 dL_law_642 dL_law_643 dL_law_644 dL_law_645 ?_
  refine call_i (run_V (a := ea E 0) (As := [.int (iI (xs (i + 1)).toInt), .int (iI (xs (i + 2)).toInt)]) (rest := []) ⟨hx, hb, hml, hown, hts⟩ (ctX8_top l E (xs (i + 1)).toInt (xs (i + 2)).toInt σ _ (iI_of _).2 (iI_of _).2 hq) (cwV 2 hts gL_law_X8_top rfl rfl rfl ⟨rfl, hdX8_top⟩ ⟨Nat.le_of_ble_eq_true rfl, Nat.le_of_ble_eq_true rfl⟩) hK hN hg (recv_x (ci := 8) (C := RX8) (T := TX8) (N := 14) hg hK (by decide) rfl (by decide) rfl) rfl hl.1 rfl (cat_sum _ (by simp)) dL_law_646 (show 39 + (sz σ - ez E) + 0 ≤ 600000 ∧ 19543 + 9 * (sz σ - ez E) + 0 ≤ 7302250 by have q1 := hg.1.2.2.2.2.2.2.2.2.1; unfold tpE at *; omega)) hg (fun r1 σ1 H locs hz0 hm2 hq hg => ?_)
  have ht : sz σ1 ≤ tpE E := Nat.le_trans hm2.2.2 ht
  refine W_narrowL hg hes hez hez0 ?_
  refine lv_aload_n hx hb dL_law_649 rfl (lv_at hl 2 rfl) ?_
  refine l_arg (k := 1) hx hb hX hbl hE0 hg hL (by omega) hl dL_law_650 dL_law_651 dL_law_652 dL_law_653 dL_law_654 ?_
  refine l_arg (k := 2) hx hb hX hbl hE0 hg hL (by omega) hl dL_law_655 dL_law_656 dL_law_657 dL_law_658 dL_law_659 ?_
  refine call_i (run_V (a := ea E 21) (As := [.int (iI (xs (i + 1)).toInt), .int (iI (xs (i + 2)).toInt)]) (rest := [.int (iI r1)]) ⟨hx, hb, hml, hown, hts⟩ (ctX9_top l E (xs (i + 1)).toInt (xs (i + 2)).toInt σ1 _ (iI_of _).2 (iI_of _).2 hq) (cwV 2 hts gL_law_X9_top rfl rfl rfl ⟨rfl, hdX9_top⟩ ⟨Nat.le_of_ble_eq_true rfl, Nat.le_of_ble_eq_true rfl⟩) hK hN hg (recv_x (ci := 9) (C := RX9) (T := TX9) (N := 27) hg hK (by decide) rfl (by decide) rfl) rfl hl.1 rfl (cat_sum _ (by simp)) dL_law_660 (show 39 + (sz σ1 - ez E) + 0 ≤ 600000 ∧ 19543 + 9 * (sz σ1 - ez E) + 0 ≤ 7302250 by have q1 := hg.1.2.2.2.2.2.2.2.2.1; unfold tpE at *; omega)) hg (fun r2 σ2 H locs hz1 hm2 hq hg => ?_)
  have ht : sz σ2 ≤ tpE E := Nat.le_trans hm2.2.2 ht
  refine W_narrowL hg hes hez hez0 ?_
  obtain ⟨rfl, hLP⟩ := hq
  refine lv_icmp_eq (tgt := 1395) hx hb dL_law_663 (by decide) (fun _ => ?_) (fun q => absurd rfl q)
  exact kk σ2 H locs hg ht hLP
set_option maxRecDepth 100000 in
set_option maxHeartbeats 4000000 in
theorem lc_same {p : Program} {l : Launch} {e : Env} {s : State} {m : MethodId} {below : List Frame} {meth : Method} {c : Code} {H : Heap} {locs : List Loc} {ls : Array Slot} {b L i n : Nat} {xs : Nat → Int32} {E : Ev} {σ : SS} (X : LX p s m meth c b L xs E) (hi : i + 5 ≤ L) (hn : n ≤ 1000) (hg : GS E σ s H locs) (ht : sz σ ≤ tpE E) (h : LPz (ez E) n σ) (hl : lv_has ls 4 (lvL E b i)) (kk : LK p l e s m below meth c b E n ls) : W p l e room_1 s m #[Value.ref b] below meth c H locs (39 + (sz σ - ez E)) (19543 + 9 * (sz σ - ez E)) (lw_Z below #[Value.ref b] s) (F0 m 668 ls []) := by
  obtain ⟨hx, hb, hr, hml, hown, hts, hX, hbl, hlocks, hL, hK, hN, hE0, hes, hez, hez0⟩ := id X
  have hq := lp_same (x1 := (xs (i + 1)).toInt) (x2 := (xs (i + 2)).toInt) (tp := tpE E) (n := n) (hBE E) hn h
  refine lv_aload_n hx hb dL_law_668 rfl (lv_at hl 1 rfl) ?_
  refine l_arg (k := 1) hx hb hX hbl hE0 hg hL (by omega) hl dL_law_669 dL_law_670 dL_law_671 dL_law_672 dL_law_673 ?_
  refine l_arg (k := 2) hx hb hX hbl hE0 hg hL (by omega) hl dL_law_674 dL_law_675 dL_law_676 dL_law_677 dL_law_678 ?_
  refine call_i (run_V (a := ea E 0) (As := [.int (iI (xs (i + 1)).toInt), .int (iI (xs (i + 2)).toInt)]) (rest := []) ⟨hx, hb, hml, hown, hts⟩ (ctX8_same l E (xs (i + 1)).toInt (xs (i + 2)).toInt σ _ (iI_of _).2 (iI_of _).2 hq) (cwV 2 hts gL_law_X8_same rfl rfl rfl ⟨rfl, hdX8_same⟩ ⟨Nat.le_of_ble_eq_true rfl, Nat.le_of_ble_eq_true rfl⟩) hK hN hg (recv_x (ci := 8) (C := RX8) (T := TX8) (N := 14) hg hK (by decide) rfl (by decide) rfl) rfl hl.1 rfl (cat_sum _ (by simp)) dL_law_679 (show 39 + (sz σ - ez E) + 0 ≤ 600000 ∧ 19543 + 9 * (sz σ - ez E) + 0 ≤ 7302250 by have q1 := hg.1.2.2.2.2.2.2.2.2.1; unfold tpE at *; omega)) hg (fun r1 σ1 H locs hz0 hm2 hq hg => ?_)
  have ht : sz σ1 ≤ tpE E := Nat.le_trans hm2.2.2 ht
  refine W_narrowL hg hes hez hez0 ?_
  refine lv_aload_n hx hb dL_law_682 rfl (lv_at hl 2 rfl) ?_
  refine l_arg (k := 1) hx hb hX hbl hE0 hg hL (by omega) hl dL_law_683 dL_law_684 dL_law_685 dL_law_686 dL_law_687 ?_
  refine l_arg (k := 2) hx hb hX hbl hE0 hg hL (by omega) hl dL_law_688 dL_law_689 dL_law_690 dL_law_691 dL_law_692 ?_
  refine call_i (run_V (a := ea E 21) (As := [.int (iI (xs (i + 1)).toInt), .int (iI (xs (i + 2)).toInt)]) (rest := [.int (iI r1)]) ⟨hx, hb, hml, hown, hts⟩ (ctX9_same l E (xs (i + 1)).toInt (xs (i + 2)).toInt σ1 _ (iI_of _).2 (iI_of _).2 hq) (cwV 2 hts gL_law_X9_same rfl rfl rfl ⟨rfl, hdX9_same⟩ ⟨Nat.le_of_ble_eq_true rfl, Nat.le_of_ble_eq_true rfl⟩) hK hN hg (recv_x (ci := 9) (C := RX9) (T := TX9) (N := 27) hg hK (by decide) rfl (by decide) rfl) rfl hl.1 rfl (cat_sum _ (by simp)) dL_law_693 (show 39 + (sz σ1 - ez E) + 0 ≤ 600000 ∧ 19543 + 9 * (sz σ1 - ez E) + 0 ≤ 7302250 by have q1 := hg.1.2.2.2.2.2.2.2.2.1; unfold tpE at *; omega)) hg (fun r2 σ2 H locs hz1 hm2 hq hg => ?_)
  have ht : sz σ2 ≤ tpE E := Nat.le_trans hm2.2.2 ht
  refine W_narrowL hg hes hez hez0 ?_
  obtain ⟨rfl, hLP⟩ := hq
  refine lv_icmp_eq (tgt := 1395) hx hb dL_law_696 (by decide) (fun _ => ?_) (fun q => absurd rfl q)
  exact kk σ2 H locs hg ht hLP
set_option maxRecDepth 100000 in
set_option maxHeartbeats 4000000 in
theorem lc_common {p : Program} {l : Launch} {e : Env} {s : State} {m : MethodId} {below : List Frame} {meth : Method} {c : Code} {H : Heap} {locs : List Loc} {ls : Array Slot} {b L i n : Nat} {xs : Nat → Int32} {E : Ev} {σ : SS} (X : LX p s m meth c b L xs E) (hi : i + 5 ≤ L) (hn : n ≤ 1000) (hg : GS E σ s H locs) (ht : sz σ ≤ tpE E) (h : LPz (ez E) n σ) (hl : lv_has ls 4 (lvL E b i)) (kk : LK p l e s m below meth c b E n ls) : W p l e room_1 s m #[Value.ref b] below meth c H locs (39 + (sz σ - ez E)) (19543 + 9 * (sz σ - ez E)) (lw_Z below #[Value.ref b] s) (F0 m 701 ls []) := by
  obtain ⟨hx, hb, hr, hml, hown, hts, hX, hbl, hlocks, hL, hK, hN, hE0, hes, hez, hez0⟩ := id X
  have hq := lp_common (x1 := (xs (i + 1)).toInt) (x2 := (xs (i + 2)).toInt) (tp := tpE E) (n := n) (hBE E) hn h
  refine lv_aload_n hx hb dL_law_701 rfl (lv_at hl 1 rfl) ?_
  refine l_arg (k := 1) hx hb hX hbl hE0 hg hL (by omega) hl dL_law_702 dL_law_703 dL_law_704 dL_law_705 dL_law_706 ?_
  refine l_arg (k := 2) hx hb hX hbl hE0 hg hL (by omega) hl dL_law_707 dL_law_708 dL_law_709 dL_law_710 dL_law_711 ?_
  refine call_i (run_V (a := ea E 0) (As := [.int (iI (xs (i + 1)).toInt), .int (iI (xs (i + 2)).toInt)]) (rest := []) ⟨hx, hb, hml, hown, hts⟩ (ctX8_common l E (xs (i + 1)).toInt (xs (i + 2)).toInt σ _ (iI_of _).2 (iI_of _).2 hq) (cwV 2 hts gL_law_X8_common rfl rfl rfl ⟨rfl, hdX8_common⟩ ⟨Nat.le_of_ble_eq_true rfl, Nat.le_of_ble_eq_true rfl⟩) hK hN hg (recv_x (ci := 8) (C := RX8) (T := TX8) (N := 14) hg hK (by decide) rfl (by decide) rfl) rfl hl.1 rfl (cat_sum _ (by simp)) dL_law_712 (show 39 + (sz σ - ez E) + 0 ≤ 600000 ∧ 19543 + 9 * (sz σ - ez E) + 0 ≤ 7302250 by have q1 := hg.1.2.2.2.2.2.2.2.2.1; unfold tpE at *; omega)) hg (fun r1 σ1 H locs hz0 hm2 hq hg => ?_)
  have ht : sz σ1 ≤ tpE E := Nat.le_trans hm2.2.2 ht
  refine W_narrowL hg hes hez hez0 ?_
  refine lv_aload_n hx hb dL_law_715 rfl (lv_at hl 2 rfl) ?_
  refine l_arg (k := 1) hx hb hX hbl hE0 hg hL (by omega) hl dL_law_716 dL_law_717 dL_law_718 dL_law_719 dL_law_720 ?_
  refine l_arg (k := 2) hx hb hX hbl hE0 hg hL (by omega) hl dL_law_721 dL_law_722 dL_law_723 dL_law_724 dL_law_725 ?_
  refine call_i (run_V (a := ea E 21) (As := [.int (iI (xs (i + 1)).toInt), .int (iI (xs (i + 2)).toInt)]) (rest := [.int (iI r1)]) ⟨hx, hb, hml, hown, hts⟩ (ctX9_common l E (xs (i + 1)).toInt (xs (i + 2)).toInt σ1 _ (iI_of _).2 (iI_of _).2 hq) (cwV 2 hts gL_law_X9_common rfl rfl rfl ⟨rfl, hdX9_common⟩ ⟨Nat.le_of_ble_eq_true rfl, Nat.le_of_ble_eq_true rfl⟩) hK hN hg (recv_x (ci := 9) (C := RX9) (T := TX9) (N := 27) hg hK (by decide) rfl (by decide) rfl) rfl hl.1 rfl (cat_sum _ (by simp)) dL_law_726 (show 39 + (sz σ1 - ez E) + 0 ≤ 600000 ∧ 19543 + 9 * (sz σ1 - ez E) + 0 ≤ 7302250 by have q1 := hg.1.2.2.2.2.2.2.2.2.1; unfold tpE at *; omega)) hg (fun r2 σ2 H locs hz1 hm2 hq hg => ?_)
  have ht : sz σ2 ≤ tpE E := Nat.le_trans hm2.2.2 ht
  refine W_narrowL hg hes hez hez0 ?_
  obtain ⟨rfl, hLP⟩ := hq
  refine lv_icmp_eq (tgt := 1395) hx hb dL_law_729 (by decide) (fun _ => ?_) (fun q => absurd rfl q)
  exact kk σ2 H locs hg ht hLP
set_option maxRecDepth 100000 in
set_option maxHeartbeats 4000000 in
theorem lc_apart {p : Program} {l : Launch} {e : Env} {s : State} {m : MethodId} {below : List Frame} {meth : Method} {c : Code} {H : Heap} {locs : List Loc} {ls : Array Slot} {b L i n : Nat} {xs : Nat → Int32} {E : Ev} {σ : SS} (X : LX p s m meth c b L xs E) (hi : i + 5 ≤ L) (hn : n ≤ 1000) (hg : GS E σ s H locs) (ht : sz σ ≤ tpE E) (h : LPz (ez E) n σ) (hl : lv_has ls 4 (lvL E b i)) (kk : LK p l e s m below meth c b E n ls) : W p l e room_1 s m #[Value.ref b] below meth c H locs (39 + (sz σ - ez E)) (19543 + 9 * (sz σ - ez E)) (lw_Z below #[Value.ref b] s) (F0 m 734 ls []) := by
  obtain ⟨hx, hb, hr, hml, hown, hts, hX, hbl, hlocks, hL, hK, hN, hE0, hes, hez, hez0⟩ := id X
  have hq := lp_apart (x1 := (xs (i + 1)).toInt) (x2 := (xs (i + 2)).toInt) (tp := tpE E) (n := n) (hBE E) hn h
  refine lv_aload_n hx hb dL_law_734 rfl (lv_at hl 1 rfl) ?_
  refine l_arg (k := 1) hx hb hX hbl hE0 hg hL (by omega) hl dL_law_735 dL_law_736 dL_law_737 dL_law_738 dL_law_739 ?_
  refine l_arg (k := 2) hx hb hX hbl hE0 hg hL (by omega) hl dL_law_740 dL_law_741 dL_law_742 dL_law_743 dL_law_744 ?_
  refine call_i (run_V (a := ea E 0) (As := [.int (iI (xs (i + 1)).toInt), .int (iI (xs (i + 2)).toInt)]) (rest := []) ⟨hx, hb, hml, hown, hts⟩ (ctX8_apart l E (xs (i + 1)).toInt (xs (i + 2)).toInt σ _ (iI_of _).2 (iI_of _).2 hq) (cwV 2 hts gL_law_X8_apart rfl rfl rfl ⟨rfl, hdX8_apart⟩ ⟨Nat.le_of_ble_eq_true rfl, Nat.le_of_ble_eq_true rfl⟩) hK hN hg (recv_x (ci := 8) (C := RX8) (T := TX8) (N := 14) hg hK (by decide) rfl (by decide) rfl) rfl hl.1 rfl (cat_sum _ (by simp)) dL_law_745 (show 39 + (sz σ - ez E) + 0 ≤ 600000 ∧ 19543 + 9 * (sz σ - ez E) + 0 ≤ 7302250 by have q1 := hg.1.2.2.2.2.2.2.2.2.1; unfold tpE at *; omega)) hg (fun r1 σ1 H locs hz0 hm2 hq hg => ?_)
  have ht : sz σ1 ≤ tpE E := Nat.le_trans hm2.2.2 ht
  refine W_narrowL hg hes hez hez0 ?_
  refine lv_aload_n hx hb dL_law_748 rfl (lv_at hl 2 rfl) ?_
  refine l_arg (k := 1) hx hb hX hbl hE0 hg hL (by omega) hl dL_law_749 dL_law_750 dL_law_751 dL_law_752 dL_law_753 ?_
  refine l_arg (k := 2) hx hb hX hbl hE0 hg hL (by omega) hl dL_law_754 dL_law_755 dL_law_756 dL_law_757 dL_law_758 ?_
  refine call_i (run_V (a := ea E 21) (As := [.int (iI (xs (i + 1)).toInt), .int (iI (xs (i + 2)).toInt)]) (rest := [.int (iI r1)]) ⟨hx, hb, hml, hown, hts⟩ (ctX9_apart l E (xs (i + 1)).toInt (xs (i + 2)).toInt σ1 _ (iI_of _).2 (iI_of _).2 hq) (cwV 2 hts gL_law_X9_apart rfl rfl rfl ⟨rfl, hdX9_apart⟩ ⟨Nat.le_of_ble_eq_true rfl, Nat.le_of_ble_eq_true rfl⟩) hK hN hg (recv_x (ci := 9) (C := RX9) (T := TX9) (N := 27) hg hK (by decide) rfl (by decide) rfl) rfl hl.1 rfl (cat_sum _ (by simp)) dL_law_759 (show 39 + (sz σ1 - ez E) + 0 ≤ 600000 ∧ 19543 + 9 * (sz σ1 - ez E) + 0 ≤ 7302250 by have q1 := hg.1.2.2.2.2.2.2.2.2.1; unfold tpE at *; omega)) hg (fun r2 σ2 H locs hz1 hm2 hq hg => ?_)
  have ht : sz σ2 ≤ tpE E := Nat.le_trans hm2.2.2 ht
  refine W_narrowL hg hes hez hez0 ?_
  obtain ⟨rfl, hLP⟩ := hq
  refine lv_icmp_eq (tgt := 1395) hx hb dL_law_762 (by decide) (fun _ => ?_) (fun q => absurd rfl q)
  exact kk σ2 H locs hg ht hLP
set_option maxRecDepth 100000 in
set_option maxHeartbeats 4000000 in
theorem lc_cut {p : Program} {l : Launch} {e : Env} {s : State} {m : MethodId} {below : List Frame} {meth : Method} {c : Code} {H : Heap} {locs : List Loc} {ls : Array Slot} {b L i n : Nat} {xs : Nat → Int32} {E : Ev} {σ : SS} (X : LX p s m meth c b L xs E) (hi : i + 5 ≤ L) (hn : n ≤ 1000) (hg : GS E σ s H locs) (ht : sz σ ≤ tpE E) (h : LPz (ez E) n σ) (hl : lv_has ls 4 (lvL E b i)) (kk : LK p l e s m below meth c b E n ls) : W p l e room_1 s m #[Value.ref b] below meth c H locs (39 + (sz σ - ez E)) (19543 + 9 * (sz σ - ez E)) (lw_Z below #[Value.ref b] s) (F0 m 767 ls []) := by
  obtain ⟨hx, hb, hr, hml, hown, hts, hX, hbl, hlocks, hL, hK, hN, hE0, hes, hez, hez0⟩ := id X
  have hq := lp_cut (x1 := (xs (i + 1)).toInt) (x2 := (xs (i + 2)).toInt) (x3 := (xs (i + 3)).toInt) (tp := tpE E) (n := n) (hBE E) hn h
  refine lv_aload_n hx hb dL_law_767 rfl (lv_at hl 1 rfl) ?_
  refine l_arg (k := 1) hx hb hX hbl hE0 hg hL (by omega) hl dL_law_768 dL_law_769 dL_law_770 dL_law_771 dL_law_772 ?_
  refine l_arg (k := 2) hx hb hX hbl hE0 hg hL (by omega) hl dL_law_773 dL_law_774 dL_law_775 dL_law_776 dL_law_777 ?_
  refine l_arg (k := 3) hx hb hX hbl hE0 hg hL (by omega) hl dL_law_778 dL_law_779 dL_law_780 dL_law_781 dL_law_782 ?_
  refine call_i (run_V (a := ea E 0) (As := [.int (iI (xs (i + 1)).toInt), .int (iI (xs (i + 2)).toInt), .int (iI (xs (i + 3)).toInt)]) (rest := []) ⟨hx, hb, hml, hown, hts⟩ (ctX8_cut l E (tpE E) (xs (i + 1)).toInt (xs (i + 2)).toInt (xs (i + 3)).toInt σ _ (iI_of _).2 (iI_of _).2 (iI_of _).2 ht hq) (cwV 3 hts gL_law_X8_cut rfl rfl rfl ⟨rfl, hdX8_cut⟩ ⟨Nat.le_of_ble_eq_true rfl, Nat.le_of_ble_eq_true rfl⟩) hK hN hg (recv_x (ci := 8) (C := RX8) (T := TX8) (N := 14) hg hK (by decide) rfl (by decide) rfl) rfl hl.1 rfl (cat_sum _ (by simp)) dL_law_783 (show 39 + (sz σ - ez E) + (tpE E - sz σ) ≤ 600000 ∧ 19543 + 9 * (sz σ - ez E) + 9 * (tpE E - sz σ) ≤ 7302250 by have q1 := hg.1.2.2.2.2.2.2.2.2.1; unfold tpE at *; omega)) hg (fun r1 σ1 H locs hz0 hm2 hq hg => ?_)
  have ht : sz σ1 ≤ tpE E := hm2.2.2
  refine W_narrowL hg hes hez hez0 ?_
  refine lv_aload_n hx hb dL_law_786 rfl (lv_at hl 2 rfl) ?_
  refine l_arg (k := 1) hx hb hX hbl hE0 hg hL (by omega) hl dL_law_787 dL_law_788 dL_law_789 dL_law_790 dL_law_791 ?_
  refine l_arg (k := 2) hx hb hX hbl hE0 hg hL (by omega) hl dL_law_792 dL_law_793 dL_law_794 dL_law_795 dL_law_796 ?_
  refine l_arg (k := 3) hx hb hX hbl hE0 hg hL (by omega) hl dL_law_797 dL_law_798 dL_law_799 dL_law_800 dL_law_801 ?_
  refine call_i (run_V (a := ea E 21) (As := [.int (iI (xs (i + 1)).toInt), .int (iI (xs (i + 2)).toInt), .int (iI (xs (i + 3)).toInt)]) (rest := [.int (iI r1)]) ⟨hx, hb, hml, hown, hts⟩ (ctX9_cut l E (xs (i + 1)).toInt (xs (i + 2)).toInt (xs (i + 3)).toInt σ1 _ (iI_of _).2 (iI_of _).2 (iI_of _).2 hq) (cwV 3 hts gL_law_X9_cut rfl rfl rfl ⟨rfl, hdX9_cut⟩ ⟨Nat.le_of_ble_eq_true rfl, Nat.le_of_ble_eq_true rfl⟩) hK hN hg (recv_x (ci := 9) (C := RX9) (T := TX9) (N := 27) hg hK (by decide) rfl (by decide) rfl) rfl hl.1 rfl (cat_sum _ (by simp)) dL_law_802 (show 39 + (sz σ1 - ez E) + 0 ≤ 600000 ∧ 19543 + 9 * (sz σ1 - ez E) + 0 ≤ 7302250 by have q1 := hg.1.2.2.2.2.2.2.2.2.1; unfold tpE at *; omega)) hg (fun r2 σ2 H locs hz1 hm2 hq hg => ?_)
  have ht : sz σ2 ≤ tpE E := Nat.le_trans hm2.2.2 ht
  refine W_narrowL hg hes hez hez0 ?_
  obtain ⟨rfl, hLP⟩ := hq
  refine lv_icmp_eq (tgt := 1395) hx hb dL_law_805 (by decide) (fun _ => ?_) (fun q => absurd rfl q)
  exact kk σ2 H locs hg ht hLP
set_option maxRecDepth 100000 in
set_option maxHeartbeats 4000000 in
theorem lc_glue {p : Program} {l : Launch} {e : Env} {s : State} {m : MethodId} {below : List Frame} {meth : Method} {c : Code} {H : Heap} {locs : List Loc} {ls : Array Slot} {b L i n : Nat} {xs : Nat → Int32} {E : Ev} {σ : SS} (X : LX p s m meth c b L xs E) (hi : i + 5 ≤ L) (hn : n ≤ 1000) (hg : GS E σ s H locs) (ht : sz σ ≤ tpE E) (h : LPz (ez E) n σ) (hl : lv_has ls 4 (lvL E b i)) (kk : LK p l e s m below meth c b E n ls) : W p l e room_1 s m #[Value.ref b] below meth c H locs (39 + (sz σ - ez E)) (19543 + 9 * (sz σ - ez E)) (lw_Z below #[Value.ref b] s) (F0 m 810 ls []) := by
  obtain ⟨hx, hb, hr, hml, hown, hts, hX, hbl, hlocks, hL, hK, hN, hE0, hes, hez, hez0⟩ := id X
  have hq := lp_glue (x1 := (xs (i + 1)).toInt) (x2 := (xs (i + 2)).toInt) (tp := tpE E) (n := n) (hBE E) hn h
  refine lv_aload_n hx hb dL_law_810 rfl (lv_at hl 1 rfl) ?_
  refine l_arg (k := 1) hx hb hX hbl hE0 hg hL (by omega) hl dL_law_811 dL_law_812 dL_law_813 dL_law_814 dL_law_815 ?_
  refine l_arg (k := 2) hx hb hX hbl hE0 hg hL (by omega) hl dL_law_816 dL_law_817 dL_law_818 dL_law_819 dL_law_820 ?_
  refine call_i (run_V (a := ea E 0) (As := [.int (iI (xs (i + 1)).toInt), .int (iI (xs (i + 2)).toInt)]) (rest := []) ⟨hx, hb, hml, hown, hts⟩ (ctX8_glue l E (tpE E) (xs (i + 1)).toInt (xs (i + 2)).toInt σ _ (iI_of _).2 (iI_of _).2 ht hq) (cwV 2 hts gL_law_X8_glue rfl rfl rfl ⟨rfl, hdX8_glue⟩ ⟨Nat.le_of_ble_eq_true rfl, Nat.le_of_ble_eq_true rfl⟩) hK hN hg (recv_x (ci := 8) (C := RX8) (T := TX8) (N := 14) hg hK (by decide) rfl (by decide) rfl) rfl hl.1 rfl (cat_sum _ (by simp)) dL_law_821 (show 39 + (sz σ - ez E) + (tpE E - sz σ) ≤ 600000 ∧ 19543 + 9 * (sz σ - ez E) + 9 * (tpE E - sz σ) ≤ 7302250 by have q1 := hg.1.2.2.2.2.2.2.2.2.1; unfold tpE at *; omega)) hg (fun r1 σ1 H locs hz0 hm2 hq hg => ?_)
  have ht : sz σ1 ≤ tpE E := hm2.2.2
  refine W_narrowL hg hes hez hez0 ?_
  refine lv_aload_n hx hb dL_law_824 rfl (lv_at hl 2 rfl) ?_
  refine l_arg (k := 1) hx hb hX hbl hE0 hg hL (by omega) hl dL_law_825 dL_law_826 dL_law_827 dL_law_828 dL_law_829 ?_
  refine l_arg (k := 2) hx hb hX hbl hE0 hg hL (by omega) hl dL_law_830 dL_law_831 dL_law_832 dL_law_833 dL_law_834 ?_
  refine call_i (run_V (a := ea E 21) (As := [.int (iI (xs (i + 1)).toInt), .int (iI (xs (i + 2)).toInt)]) (rest := [.int (iI r1)]) ⟨hx, hb, hml, hown, hts⟩ (ctX9_glue l E (xs (i + 1)).toInt (xs (i + 2)).toInt σ1 _ (iI_of _).2 (iI_of _).2 hq) (cwV 2 hts gL_law_X9_glue rfl rfl rfl ⟨rfl, hdX9_glue⟩ ⟨Nat.le_of_ble_eq_true rfl, Nat.le_of_ble_eq_true rfl⟩) hK hN hg (recv_x (ci := 9) (C := RX9) (T := TX9) (N := 27) hg hK (by decide) rfl (by decide) rfl) rfl hl.1 rfl (cat_sum _ (by simp)) dL_law_835 (show 39 + (sz σ1 - ez E) + 0 ≤ 600000 ∧ 19543 + 9 * (sz σ1 - ez E) + 0 ≤ 7302250 by have q1 := hg.1.2.2.2.2.2.2.2.2.1; unfold tpE at *; omega)) hg (fun r2 σ2 H locs hz1 hm2 hq hg => ?_)
  have ht : sz σ2 ≤ tpE E := Nat.le_trans hm2.2.2 ht
  refine W_narrowL hg hes hez hez0 ?_
  obtain ⟨rfl, hLP⟩ := hq
  refine lv_icmp_eq (tgt := 1395) hx hb dL_law_838 (by decide) (fun _ => ?_) (fun q => absurd rfl q)
  exact kk σ2 H locs hg ht hLP
set_option maxRecDepth 100000 in
set_option maxHeartbeats 4000000 in
theorem lc_share {p : Program} {l : Launch} {e : Env} {s : State} {m : MethodId} {below : List Frame} {meth : Method} {c : Code} {H : Heap} {locs : List Loc} {ls : Array Slot} {b L i n : Nat} {xs : Nat → Int32} {E : Ev} {σ : SS} (X : LX p s m meth c b L xs E) (hi : i + 5 ≤ L) (hn : n ≤ 1000) (hg : GS E σ s H locs) (ht : sz σ ≤ tpE E) (h : LPz (ez E) n σ) (hl : lv_has ls 4 (lvL E b i)) (kk : LK p l e s m below meth c b E n ls) : W p l e room_1 s m #[Value.ref b] below meth c H locs (39 + (sz σ - ez E)) (19543 + 9 * (sz σ - ez E)) (lw_Z below #[Value.ref b] s) (F0 m 843 ls []) := by
  obtain ⟨hx, hb, hr, hml, hown, hts, hX, hbl, hlocks, hL, hK, hN, hE0, hes, hez, hez0⟩ := id X
  have hq := lp_share (x1 := (xs (i + 1)).toInt) (x2 := (xs (i + 2)).toInt) (tp := tpE E) (n := n) (hBE E) hn h
  refine lv_aload_n hx hb dL_law_843 rfl (lv_at hl 1 rfl) ?_
  refine l_arg (k := 1) hx hb hX hbl hE0 hg hL (by omega) hl dL_law_844 dL_law_845 dL_law_846 dL_law_847 dL_law_848 ?_
  refine l_arg (k := 2) hx hb hX hbl hE0 hg hL (by omega) hl dL_law_849 dL_law_850 dL_law_851 dL_law_852 dL_law_853 ?_
  refine call_i (run_V (a := ea E 0) (As := [.int (iI (xs (i + 1)).toInt), .int (iI (xs (i + 2)).toInt)]) (rest := []) ⟨hx, hb, hml, hown, hts⟩ (ctX8_share l E (xs (i + 1)).toInt (xs (i + 2)).toInt σ _ (iI_of _).2 (iI_of _).2 hq) (cwV 2 hts gL_law_X8_share rfl rfl rfl ⟨rfl, hdX8_share⟩ ⟨Nat.le_of_ble_eq_true rfl, Nat.le_of_ble_eq_true rfl⟩) hK hN hg (recv_x (ci := 8) (C := RX8) (T := TX8) (N := 14) hg hK (by decide) rfl (by decide) rfl) rfl hl.1 rfl (cat_sum _ (by simp)) dL_law_854 (show 39 + (sz σ - ez E) + 0 ≤ 600000 ∧ 19543 + 9 * (sz σ - ez E) + 0 ≤ 7302250 by have q1 := hg.1.2.2.2.2.2.2.2.2.1; unfold tpE at *; omega)) hg (fun r1 σ1 H locs hz0 hm2 hq hg => ?_)
  have ht : sz σ1 ≤ tpE E := Nat.le_trans hm2.2.2 ht
  refine W_narrowL hg hes hez hez0 ?_
  refine lv_aload_n hx hb dL_law_857 rfl (lv_at hl 2 rfl) ?_
  refine l_arg (k := 1) hx hb hX hbl hE0 hg hL (by omega) hl dL_law_858 dL_law_859 dL_law_860 dL_law_861 dL_law_862 ?_
  refine l_arg (k := 2) hx hb hX hbl hE0 hg hL (by omega) hl dL_law_863 dL_law_864 dL_law_865 dL_law_866 dL_law_867 ?_
  refine call_i (run_V (a := ea E 21) (As := [.int (iI (xs (i + 1)).toInt), .int (iI (xs (i + 2)).toInt)]) (rest := [.int (iI r1)]) ⟨hx, hb, hml, hown, hts⟩ (ctX9_share l E (xs (i + 1)).toInt (xs (i + 2)).toInt σ1 _ (iI_of _).2 (iI_of _).2 hq) (cwV 2 hts gL_law_X9_share rfl rfl rfl ⟨rfl, hdX9_share⟩ ⟨Nat.le_of_ble_eq_true rfl, Nat.le_of_ble_eq_true rfl⟩) hK hN hg (recv_x (ci := 9) (C := RX9) (T := TX9) (N := 27) hg hK (by decide) rfl (by decide) rfl) rfl hl.1 rfl (cat_sum _ (by simp)) dL_law_868 (show 39 + (sz σ1 - ez E) + 0 ≤ 600000 ∧ 19543 + 9 * (sz σ1 - ez E) + 0 ≤ 7302250 by have q1 := hg.1.2.2.2.2.2.2.2.2.1; unfold tpE at *; omega)) hg (fun r2 σ2 H locs hz1 hm2 hq hg => ?_)
  have ht : sz σ2 ≤ tpE E := Nat.le_trans hm2.2.2 ht
  refine W_narrowL hg hes hez hez0 ?_
  obtain ⟨rfl, hLP⟩ := hq
  refine lv_icmp_eq (tgt := 1395) hx hb dL_law_871 (by decide) (fun _ => ?_) (fun q => absurd rfl q)
  exact kk σ2 H locs hg ht hLP
set_option maxRecDepth 100000 in
set_option maxHeartbeats 4000000 in
theorem lc_mix {p : Program} {l : Launch} {e : Env} {s : State} {m : MethodId} {below : List Frame} {meth : Method} {c : Code} {H : Heap} {locs : List Loc} {ls : Array Slot} {b L i n : Nat} {xs : Nat → Int32} {E : Ev} {σ : SS} (X : LX p s m meth c b L xs E) (hi : i + 5 ≤ L) (hn : n ≤ 1000) (hg : GS E σ s H locs) (ht : sz σ ≤ tpE E) (h : LPz (ez E) n σ) (hl : lv_has ls 4 (lvL E b i)) (kk : LK p l e s m below meth c b E n ls) : W p l e room_1 s m #[Value.ref b] below meth c H locs (39 + (sz σ - ez E)) (19543 + 9 * (sz σ - ez E)) (lw_Z below #[Value.ref b] s) (F0 m 876 ls []) := by
  obtain ⟨hx, hb, hr, hml, hown, hts, hX, hbl, hlocks, hL, hK, hN, hE0, hes, hez, hez0⟩ := id X
  have hq := lp_mix (x1 := (xs (i + 1)).toInt) (x2 := (xs (i + 2)).toInt) (x3 := (xs (i + 3)).toInt) (x4 := (xs (i + 4)).toInt) (tp := tpE E) (n := n) (hBE E) hn h
  refine lv_aload_n hx hb dL_law_876 rfl (lv_at hl 1 rfl) ?_
  refine l_arg (k := 1) hx hb hX hbl hE0 hg hL (by omega) hl dL_law_877 dL_law_878 dL_law_879 dL_law_880 dL_law_881 ?_
  refine l_arg (k := 2) hx hb hX hbl hE0 hg hL (by omega) hl dL_law_882 dL_law_883 dL_law_884 dL_law_885 dL_law_886 ?_
  refine l_arg (k := 3) hx hb hX hbl hE0 hg hL (by omega) hl dL_law_887 dL_law_888 dL_law_889 dL_law_890 dL_law_891 ?_
  refine l_arg (k := 4) hx hb hX hbl hE0 hg hL (by omega) hl dL_law_892 dL_law_893 dL_law_894 dL_law_895 dL_law_896 ?_
  refine call_i (run_V (a := ea E 0) (As := [.int (iI (xs (i + 1)).toInt), .int (iI (xs (i + 2)).toInt), .int (iI (xs (i + 3)).toInt), .int (iI (xs (i + 4)).toInt)]) (rest := []) ⟨hx, hb, hml, hown, hts⟩ (ctX8_mix l E (tpE E) (xs (i + 1)).toInt (xs (i + 2)).toInt (xs (i + 3)).toInt (xs (i + 4)).toInt σ _ (iI_of _).2 (iI_of _).2 (iI_of _).2 (iI_of _).2 ht hq) (cwV 4 hts gL_law_X8_mix rfl rfl rfl ⟨rfl, hdX8_mix⟩ ⟨Nat.le_of_ble_eq_true rfl, Nat.le_of_ble_eq_true rfl⟩) hK hN hg (recv_x (ci := 8) (C := RX8) (T := TX8) (N := 14) hg hK (by decide) rfl (by decide) rfl) rfl hl.1 rfl (cat_sum _ (by simp)) dL_law_897 (show 39 + (sz σ - ez E) + (tpE E - sz σ) ≤ 600000 ∧ 19543 + 9 * (sz σ - ez E) + 9 * (tpE E - sz σ) ≤ 7302250 by have q1 := hg.1.2.2.2.2.2.2.2.2.1; unfold tpE at *; omega)) hg (fun r1 σ1 H locs hz0 hm2 hq hg => ?_)
  have ht : sz σ1 ≤ tpE E := hm2.2.2
  refine W_narrowL hg hes hez hez0 ?_
  refine lv_aload_n hx hb dL_law_900 rfl (lv_at hl 2 rfl) ?_
  refine l_arg (k := 1) hx hb hX hbl hE0 hg hL (by omega) hl dL_law_901 dL_law_902 dL_law_903 dL_law_904 dL_law_905 ?_
  refine l_arg (k := 2) hx hb hX hbl hE0 hg hL (by omega) hl dL_law_906 dL_law_907 dL_law_908 dL_law_909 dL_law_910 ?_
  refine l_arg (k := 3) hx hb hX hbl hE0 hg hL (by omega) hl dL_law_911 dL_law_912 dL_law_913 dL_law_914 dL_law_915 ?_
  refine l_arg (k := 4) hx hb hX hbl hE0 hg hL (by omega) hl dL_law_916 dL_law_917 dL_law_918 dL_law_919 dL_law_920 ?_
  refine call_i (run_V (a := ea E 21) (As := [.int (iI (xs (i + 1)).toInt), .int (iI (xs (i + 2)).toInt), .int (iI (xs (i + 3)).toInt), .int (iI (xs (i + 4)).toInt)]) (rest := [.int (iI r1)]) ⟨hx, hb, hml, hown, hts⟩ (ctX9_mix l E (xs (i + 1)).toInt (xs (i + 2)).toInt (xs (i + 3)).toInt (xs (i + 4)).toInt σ1 _ (iI_of _).2 (iI_of _).2 (iI_of _).2 (iI_of _).2 hq) (cwV 4 hts gL_law_X9_mix rfl rfl rfl ⟨rfl, hdX9_mix⟩ ⟨Nat.le_of_ble_eq_true rfl, Nat.le_of_ble_eq_true rfl⟩) hK hN hg (recv_x (ci := 9) (C := RX9) (T := TX9) (N := 27) hg hK (by decide) rfl (by decide) rfl) rfl hl.1 rfl (cat_sum _ (by simp)) dL_law_921 (show 39 + (sz σ1 - ez E) + 0 ≤ 600000 ∧ 19543 + 9 * (sz σ1 - ez E) + 0 ≤ 7302250 by have q1 := hg.1.2.2.2.2.2.2.2.2.1; unfold tpE at *; omega)) hg (fun r2 σ2 H locs hz1 hm2 hq hg => ?_)
  have ht : sz σ2 ≤ tpE E := Nat.le_trans hm2.2.2 ht
  refine W_narrowL hg hes hez hez0 ?_
  obtain ⟨rfl, hLP⟩ := hq
  refine lv_icmp_eq (tgt := 1395) hx hb dL_law_924 (by decide) (fun _ => ?_) (fun q => absurd rfl q)
  exact kk σ2 H locs hg ht hLP
set_option maxRecDepth 100000 in
set_option maxHeartbeats 4000000 in
theorem lc_fill {p : Program} {l : Launch} {e : Env} {s : State} {m : MethodId} {below : List Frame} {meth : Method} {c : Code} {H : Heap} {locs : List Loc} {ls : Array Slot} {b L i n : Nat} {xs : Nat → Int32} {E : Ev} {σ : SS} (X : LX p s m meth c b L xs E) (hi : i + 5 ≤ L) (hn : n ≤ 1000) (hg : GS E σ s H locs) (ht : sz σ ≤ tpE E) (h : LPz (ez E) n σ) (hl : lv_has ls 4 (lvL E b i)) (kk : LK p l e s m below meth c b E n ls) : W p l e room_1 s m #[Value.ref b] below meth c H locs (39 + (sz σ - ez E)) (19543 + 9 * (sz σ - ez E)) (lw_Z below #[Value.ref b] s) (F0 m 929 ls []) := by
  obtain ⟨hx, hb, hr, hml, hown, hts, hX, hbl, hlocks, hL, hK, hN, hE0, hes, hez, hez0⟩ := id X
  have hq := lp_fill (x1 := (xs (i + 1)).toInt) (x2 := (xs (i + 2)).toInt) (x3 := (xs (i + 3)).toInt) (x4 := (xs (i + 4)).toInt) (tp := tpE E) (n := n) (hBE E) hn h
  refine lv_aload_n hx hb dL_law_929 rfl (lv_at hl 1 rfl) ?_
  refine l_arg (k := 1) hx hb hX hbl hE0 hg hL (by omega) hl dL_law_930 dL_law_931 dL_law_932 dL_law_933 dL_law_934 ?_
  refine l_arg (k := 2) hx hb hX hbl hE0 hg hL (by omega) hl dL_law_935 dL_law_936 dL_law_937 dL_law_938 dL_law_939 ?_
  refine l_arg (k := 3) hx hb hX hbl hE0 hg hL (by omega) hl dL_law_940 dL_law_941 dL_law_942 dL_law_943 dL_law_944 ?_
  refine l_arg (k := 4) hx hb hX hbl hE0 hg hL (by omega) hl dL_law_945 dL_law_946 dL_law_947 dL_law_948 dL_law_949 ?_
  refine call_i (run_V (a := ea E 0) (As := [.int (iI (xs (i + 1)).toInt), .int (iI (xs (i + 2)).toInt), .int (iI (xs (i + 3)).toInt), .int (iI (xs (i + 4)).toInt)]) (rest := []) ⟨hx, hb, hml, hown, hts⟩ (ctX8_fill l E (tpE E) (xs (i + 1)).toInt (xs (i + 2)).toInt (xs (i + 3)).toInt (xs (i + 4)).toInt σ _ (iI_of _).2 (iI_of _).2 (iI_of _).2 (iI_of _).2 ht hq) (cwV 4 hts gL_law_X8_fill rfl rfl rfl ⟨rfl, hdX8_fill⟩ ⟨Nat.le_of_ble_eq_true rfl, Nat.le_of_ble_eq_true rfl⟩) hK hN hg (recv_x (ci := 8) (C := RX8) (T := TX8) (N := 14) hg hK (by decide) rfl (by decide) rfl) rfl hl.1 rfl (cat_sum _ (by simp)) dL_law_950 (show 39 + (sz σ - ez E) + (tpE E - sz σ) ≤ 600000 ∧ 19543 + 9 * (sz σ - ez E) + 9 * (tpE E - sz σ) ≤ 7302250 by have q1 := hg.1.2.2.2.2.2.2.2.2.1; unfold tpE at *; omega)) hg (fun r1 σ1 H locs hz0 hm2 hq hg => ?_)
  have ht : sz σ1 ≤ tpE E := hm2.2.2
  refine W_narrowL hg hes hez hez0 ?_
  refine lv_aload_n hx hb dL_law_953 rfl (lv_at hl 2 rfl) ?_
  refine l_arg (k := 1) hx hb hX hbl hE0 hg hL (by omega) hl dL_law_954 dL_law_955 dL_law_956 dL_law_957 dL_law_958 ?_
  refine l_arg (k := 2) hx hb hX hbl hE0 hg hL (by omega) hl dL_law_959 dL_law_960 dL_law_961 dL_law_962 dL_law_963 ?_
  refine l_arg (k := 3) hx hb hX hbl hE0 hg hL (by omega) hl dL_law_964 dL_law_965 dL_law_966 dL_law_967 dL_law_968 ?_
  refine l_arg (k := 4) hx hb hX hbl hE0 hg hL (by omega) hl dL_law_969 dL_law_970 dL_law_971 dL_law_972 dL_law_973 ?_
  refine call_i (run_V (a := ea E 21) (As := [.int (iI (xs (i + 1)).toInt), .int (iI (xs (i + 2)).toInt), .int (iI (xs (i + 3)).toInt), .int (iI (xs (i + 4)).toInt)]) (rest := [.int (iI r1)]) ⟨hx, hb, hml, hown, hts⟩ (ctX9_fill l E (xs (i + 1)).toInt (xs (i + 2)).toInt (xs (i + 3)).toInt (xs (i + 4)).toInt σ1 _ (iI_of _).2 (iI_of _).2 (iI_of _).2 (iI_of _).2 hq) (cwV 4 hts gL_law_X9_fill rfl rfl rfl ⟨rfl, hdX9_fill⟩ ⟨Nat.le_of_ble_eq_true rfl, Nat.le_of_ble_eq_true rfl⟩) hK hN hg (recv_x (ci := 9) (C := RX9) (T := TX9) (N := 27) hg hK (by decide) rfl (by decide) rfl) rfl hl.1 rfl (cat_sum _ (by simp)) dL_law_974 (show 39 + (sz σ1 - ez E) + 0 ≤ 600000 ∧ 19543 + 9 * (sz σ1 - ez E) + 0 ≤ 7302250 by have q1 := hg.1.2.2.2.2.2.2.2.2.1; unfold tpE at *; omega)) hg (fun r2 σ2 H locs hz1 hm2 hq hg => ?_)
  have ht : sz σ2 ≤ tpE E := Nat.le_trans hm2.2.2 ht
  refine W_narrowL hg hes hez hez0 ?_
  obtain ⟨rfl, hLP⟩ := hq
  refine lv_icmp_eq (tgt := 1395) hx hb dL_law_977 (by decide) (fun _ => ?_) (fun q => absurd rfl q)
  exact kk σ2 H locs hg ht hLP
set_option maxRecDepth 100000 in
set_option maxHeartbeats 4000000 in
theorem lc_sieve {p : Program} {l : Launch} {e : Env} {s : State} {m : MethodId} {below : List Frame} {meth : Method} {c : Code} {H : Heap} {locs : List Loc} {ls : Array Slot} {b L i n : Nat} {xs : Nat → Int32} {E : Ev} {σ : SS} (X : LX p s m meth c b L xs E) (hi : i + 5 ≤ L) (hn : n ≤ 1000) (hg : GS E σ s H locs) (ht : sz σ ≤ tpE E) (h : LPz (ez E) n σ) (hl : lv_has ls 4 (lvL E b i)) (kk : LK p l e s m below meth c b E n ls) : W p l e room_1 s m #[Value.ref b] below meth c H locs (39 + (sz σ - ez E)) (19543 + 9 * (sz σ - ez E)) (lw_Z below #[Value.ref b] s) (F0 m 982 ls []) := by
  obtain ⟨hx, hb, hr, hml, hown, hts, hX, hbl, hlocks, hL, hK, hN, hE0, hes, hez, hez0⟩ := id X
  have hq := lp_sieve (x1 := (xs (i + 1)).toInt) (x2 := (xs (i + 2)).toInt) (x3 := (xs (i + 3)).toInt) (x4 := (xs (i + 4)).toInt) (tp := tpE E) (n := n) (hBE E) hn h
  refine lv_aload_n hx hb dL_law_982 rfl (lv_at hl 1 rfl) ?_
  refine l_arg (k := 1) hx hb hX hbl hE0 hg hL (by omega) hl dL_law_983 dL_law_984 dL_law_985 dL_law_986 dL_law_987 ?_
  refine l_arg (k := 2) hx hb hX hbl hE0 hg hL (by omega) hl dL_law_988 dL_law_989 dL_law_990 dL_law_991 dL_law_992 ?_
  refine l_arg (k := 3) hx hb hX hbl hE0 hg hL (by omega) hl dL_law_993 dL_law_994 dL_law_995 dL_law_996 dL_law_997 ?_
  refine l_arg (k := 4) hx hb hX hbl hE0 hg hL (by omega) hl dL_law_998 dL_law_999 dL_law_1000 dL_law_1001 dL_law_1002 ?_
  refine call_i (run_V (a := ea E 0) (As := [.int (iI (xs (i + 1)).toInt), .int (iI (xs (i + 2)).toInt), .int (iI (xs (i + 3)).toInt), .int (iI (xs (i + 4)).toInt)]) (rest := []) ⟨hx, hb, hml, hown, hts⟩ (ctX8_sieve l E (tpE E) (xs (i + 1)).toInt (xs (i + 2)).toInt (xs (i + 3)).toInt (xs (i + 4)).toInt σ _ (iI_of _).2 (iI_of _).2 (iI_of _).2 (iI_of _).2 ht hq) (cwV 4 hts gL_law_X8_sieve rfl rfl rfl ⟨rfl, hdX8_sieve⟩ ⟨Nat.le_of_ble_eq_true rfl, Nat.le_of_ble_eq_true rfl⟩) hK hN hg (recv_x (ci := 8) (C := RX8) (T := TX8) (N := 14) hg hK (by decide) rfl (by decide) rfl) rfl hl.1 rfl (cat_sum _ (by simp)) dL_law_1003 (show 39 + (sz σ - ez E) + (tpE E - sz σ) ≤ 600000 ∧ 19543 + 9 * (sz σ - ez E) + 9 * (tpE E - sz σ) ≤ 7302250 by have q1 := hg.1.2.2.2.2.2.2.2.2.1; unfold tpE at *; omega)) hg (fun r1 σ1 H locs hz0 hm2 hq hg => ?_)
  have ht : sz σ1 ≤ tpE E := hm2.2.2
  refine W_narrowL hg hes hez hez0 ?_
  refine lv_aload_n hx hb dL_law_1006 rfl (lv_at hl 2 rfl) ?_
  refine l_arg (k := 1) hx hb hX hbl hE0 hg hL (by omega) hl dL_law_1007 dL_law_1008 dL_law_1009 dL_law_1010 dL_law_1011 ?_
  refine l_arg (k := 2) hx hb hX hbl hE0 hg hL (by omega) hl dL_law_1012 dL_law_1013 dL_law_1014 dL_law_1015 dL_law_1016 ?_
  refine l_arg (k := 3) hx hb hX hbl hE0 hg hL (by omega) hl dL_law_1017 dL_law_1018 dL_law_1019 dL_law_1020 dL_law_1021 ?_
  refine l_arg (k := 4) hx hb hX hbl hE0 hg hL (by omega) hl dL_law_1022 dL_law_1023 dL_law_1024 dL_law_1025 dL_law_1026 ?_
  refine call_i (run_V (a := ea E 21) (As := [.int (iI (xs (i + 1)).toInt), .int (iI (xs (i + 2)).toInt), .int (iI (xs (i + 3)).toInt), .int (iI (xs (i + 4)).toInt)]) (rest := [.int (iI r1)]) ⟨hx, hb, hml, hown, hts⟩ (ctX9_sieve l E (xs (i + 1)).toInt (xs (i + 2)).toInt (xs (i + 3)).toInt (xs (i + 4)).toInt σ1 _ (iI_of _).2 (iI_of _).2 (iI_of _).2 (iI_of _).2 hq) (cwV 4 hts gL_law_X9_sieve rfl rfl rfl ⟨rfl, hdX9_sieve⟩ ⟨Nat.le_of_ble_eq_true rfl, Nat.le_of_ble_eq_true rfl⟩) hK hN hg (recv_x (ci := 9) (C := RX9) (T := TX9) (N := 27) hg hK (by decide) rfl (by decide) rfl) rfl hl.1 rfl (cat_sum _ (by simp)) dL_law_1027 (show 39 + (sz σ1 - ez E) + 0 ≤ 600000 ∧ 19543 + 9 * (sz σ1 - ez E) + 0 ≤ 7302250 by have q1 := hg.1.2.2.2.2.2.2.2.2.1; unfold tpE at *; omega)) hg (fun r2 σ2 H locs hz1 hm2 hq hg => ?_)
  have ht : sz σ2 ≤ tpE E := Nat.le_trans hm2.2.2 ht
  refine W_narrowL hg hes hez hez0 ?_
  obtain ⟨rfl, hLP⟩ := hq
  refine lv_icmp_eq (tgt := 1395) hx hb dL_law_1030 (by decide) (fun _ => ?_) (fun q => absurd rfl q)
  exact kk σ2 H locs hg ht hLP
set_option maxRecDepth 100000 in
set_option maxHeartbeats 4000000 in
theorem lc_raise {p : Program} {l : Launch} {e : Env} {s : State} {m : MethodId} {below : List Frame} {meth : Method} {c : Code} {H : Heap} {locs : List Loc} {ls : Array Slot} {b L i n : Nat} {xs : Nat → Int32} {E : Ev} {σ : SS} (X : LX p s m meth c b L xs E) (hi : i + 5 ≤ L) (hn : n ≤ 1000) (hg : GS E σ s H locs) (ht : sz σ ≤ tpE E) (h : LPz (ez E) n σ) (hl : lv_has ls 4 (lvL E b i)) (kk : LK p l e s m below meth c b E n ls) : W p l e room_1 s m #[Value.ref b] below meth c H locs (39 + (sz σ - ez E)) (19543 + 9 * (sz σ - ez E)) (lw_Z below #[Value.ref b] s) (F0 m 1035 ls []) := by
  obtain ⟨hx, hb, hr, hml, hown, hts, hX, hbl, hlocks, hL, hK, hN, hE0, hes, hez, hez0⟩ := id X
  have hq := lp_raise (x1 := (xs (i + 1)).toInt) (x2 := (xs (i + 2)).toInt) (x3 := (xs (i + 3)).toInt) (x4 := (xs (i + 4)).toInt) (tp := tpE E) (n := n) (hBE E) hn h
  refine lv_aload_n hx hb dL_law_1035 rfl (lv_at hl 1 rfl) ?_
  refine l_arg (k := 1) hx hb hX hbl hE0 hg hL (by omega) hl dL_law_1036 dL_law_1037 dL_law_1038 dL_law_1039 dL_law_1040 ?_
  refine l_arg (k := 2) hx hb hX hbl hE0 hg hL (by omega) hl dL_law_1041 dL_law_1042 dL_law_1043 dL_law_1044 dL_law_1045 ?_
  refine l_arg (k := 3) hx hb hX hbl hE0 hg hL (by omega) hl dL_law_1046 dL_law_1047 dL_law_1048 dL_law_1049 dL_law_1050 ?_
  refine l_arg (k := 4) hx hb hX hbl hE0 hg hL (by omega) hl dL_law_1051 dL_law_1052 dL_law_1053 dL_law_1054 dL_law_1055 ?_
  refine call_i (run_V (a := ea E 0) (As := [.int (iI (xs (i + 1)).toInt), .int (iI (xs (i + 2)).toInt), .int (iI (xs (i + 3)).toInt), .int (iI (xs (i + 4)).toInt)]) (rest := []) ⟨hx, hb, hml, hown, hts⟩ (ctX8_raise l E (tpE E) (xs (i + 1)).toInt (xs (i + 2)).toInt (xs (i + 3)).toInt (xs (i + 4)).toInt σ _ (iI_of _).2 (iI_of _).2 (iI_of _).2 (iI_of _).2 ht hq) (cwV 4 hts gL_law_X8_raise rfl rfl rfl ⟨rfl, hdX8_raise⟩ ⟨Nat.le_of_ble_eq_true rfl, Nat.le_of_ble_eq_true rfl⟩) hK hN hg (recv_x (ci := 8) (C := RX8) (T := TX8) (N := 14) hg hK (by decide) rfl (by decide) rfl) rfl hl.1 rfl (cat_sum _ (by simp)) dL_law_1056 (show 39 + (sz σ - ez E) + (tpE E - sz σ) ≤ 600000 ∧ 19543 + 9 * (sz σ - ez E) + 9 * (tpE E - sz σ) ≤ 7302250 by have q1 := hg.1.2.2.2.2.2.2.2.2.1; unfold tpE at *; omega)) hg (fun r1 σ1 H locs hz0 hm2 hq hg => ?_)
  have ht : sz σ1 ≤ tpE E := hm2.2.2
  refine W_narrowL hg hes hez hez0 ?_
  refine lv_aload_n hx hb dL_law_1059 rfl (lv_at hl 2 rfl) ?_
  refine l_arg (k := 1) hx hb hX hbl hE0 hg hL (by omega) hl dL_law_1060 dL_law_1061 dL_law_1062 dL_law_1063 dL_law_1064 ?_
  refine l_arg (k := 2) hx hb hX hbl hE0 hg hL (by omega) hl dL_law_1065 dL_law_1066 dL_law_1067 dL_law_1068 dL_law_1069 ?_
  refine l_arg (k := 3) hx hb hX hbl hE0 hg hL (by omega) hl dL_law_1070 dL_law_1071 dL_law_1072 dL_law_1073 dL_law_1074 ?_
  refine l_arg (k := 4) hx hb hX hbl hE0 hg hL (by omega) hl dL_law_1075 dL_law_1076 dL_law_1077 dL_law_1078 dL_law_1079 ?_
  refine call_i (run_V (a := ea E 21) (As := [.int (iI (xs (i + 1)).toInt), .int (iI (xs (i + 2)).toInt), .int (iI (xs (i + 3)).toInt), .int (iI (xs (i + 4)).toInt)]) (rest := [.int (iI r1)]) ⟨hx, hb, hml, hown, hts⟩ (ctX9_raise l E (xs (i + 1)).toInt (xs (i + 2)).toInt (xs (i + 3)).toInt (xs (i + 4)).toInt σ1 _ (iI_of _).2 (iI_of _).2 (iI_of _).2 (iI_of _).2 hq) (cwV 4 hts gL_law_X9_raise rfl rfl rfl ⟨rfl, hdX9_raise⟩ ⟨Nat.le_of_ble_eq_true rfl, Nat.le_of_ble_eq_true rfl⟩) hK hN hg (recv_x (ci := 9) (C := RX9) (T := TX9) (N := 27) hg hK (by decide) rfl (by decide) rfl) rfl hl.1 rfl (cat_sum _ (by simp)) dL_law_1080 (show 39 + (sz σ1 - ez E) + 0 ≤ 600000 ∧ 19543 + 9 * (sz σ1 - ez E) + 0 ≤ 7302250 by have q1 := hg.1.2.2.2.2.2.2.2.2.1; unfold tpE at *; omega)) hg (fun r2 σ2 H locs hz1 hm2 hq hg => ?_)
  have ht : sz σ2 ≤ tpE E := Nat.le_trans hm2.2.2 ht
  refine W_narrowL hg hes hez hez0 ?_
  obtain ⟨rfl, hLP⟩ := hq
  refine lv_icmp_eq (tgt := 1395) hx hb dL_law_1083 (by decide) (fun _ => ?_) (fun q => absurd rfl q)
  exact kk σ2 H locs hg ht hLP
set_option maxRecDepth 100000 in
set_option maxHeartbeats 4000000 in
theorem lc_slide {p : Program} {l : Launch} {e : Env} {s : State} {m : MethodId} {below : List Frame} {meth : Method} {c : Code} {H : Heap} {locs : List Loc} {ls : Array Slot} {b L i n : Nat} {xs : Nat → Int32} {E : Ev} {σ : SS} (X : LX p s m meth c b L xs E) (hi : i + 5 ≤ L) (hn : n ≤ 1000) (hg : GS E σ s H locs) (ht : sz σ ≤ tpE E) (h : LPz (ez E) n σ) (hl : lv_has ls 4 (lvL E b i)) (kk : LK p l e s m below meth c b E n ls) : W p l e room_1 s m #[Value.ref b] below meth c H locs (39 + (sz σ - ez E)) (19543 + 9 * (sz σ - ez E)) (lw_Z below #[Value.ref b] s) (F0 m 1088 ls []) := by
  obtain ⟨hx, hb, hr, hml, hown, hts, hX, hbl, hlocks, hL, hK, hN, hE0, hes, hez, hez0⟩ := id X
  have hq := lp_slide (x1 := (xs (i + 1)).toInt) (x2 := (xs (i + 2)).toInt) (tp := tpE E) (n := n) (hBE E) hn h
  refine lv_aload_n hx hb dL_law_1088 rfl (lv_at hl 1 rfl) ?_
  refine l_arg (k := 1) hx hb hX hbl hE0 hg hL (by omega) hl dL_law_1089 dL_law_1090 dL_law_1091 dL_law_1092 dL_law_1093 ?_
  refine l_arg (k := 2) hx hb hX hbl hE0 hg hL (by omega) hl dL_law_1094 dL_law_1095 dL_law_1096 dL_law_1097 dL_law_1098 ?_
  refine call_i (run_V (a := ea E 0) (As := [.int (iI (xs (i + 1)).toInt), .int (iI (xs (i + 2)).toInt)]) (rest := []) ⟨hx, hb, hml, hown, hts⟩ (ctX8_slide l E (tpE E) (xs (i + 1)).toInt (xs (i + 2)).toInt σ _ (iI_of _).2 (iI_of _).2 ht hq) (cwV 2 hts gL_law_X8_slide rfl rfl rfl ⟨rfl, hdX8_slide⟩ ⟨Nat.le_of_ble_eq_true rfl, Nat.le_of_ble_eq_true rfl⟩) hK hN hg (recv_x (ci := 8) (C := RX8) (T := TX8) (N := 14) hg hK (by decide) rfl (by decide) rfl) rfl hl.1 rfl (cat_sum _ (by simp)) dL_law_1099 (show 39 + (sz σ - ez E) + (tpE E - sz σ) ≤ 600000 ∧ 19543 + 9 * (sz σ - ez E) + 9 * (tpE E - sz σ) ≤ 7302250 by have q1 := hg.1.2.2.2.2.2.2.2.2.1; unfold tpE at *; omega)) hg (fun r1 σ1 H locs hz0 hm2 hq hg => ?_)
  have ht : sz σ1 ≤ tpE E := hm2.2.2
  refine W_narrowL hg hes hez hez0 ?_
  refine lv_aload_n hx hb dL_law_1102 rfl (lv_at hl 2 rfl) ?_
  refine l_arg (k := 1) hx hb hX hbl hE0 hg hL (by omega) hl dL_law_1103 dL_law_1104 dL_law_1105 dL_law_1106 dL_law_1107 ?_
  refine l_arg (k := 2) hx hb hX hbl hE0 hg hL (by omega) hl dL_law_1108 dL_law_1109 dL_law_1110 dL_law_1111 dL_law_1112 ?_
  refine call_i (run_V (a := ea E 21) (As := [.int (iI (xs (i + 1)).toInt), .int (iI (xs (i + 2)).toInt)]) (rest := [.int (iI r1)]) ⟨hx, hb, hml, hown, hts⟩ (ctX9_slide l E (xs (i + 1)).toInt (xs (i + 2)).toInt σ1 _ (iI_of _).2 (iI_of _).2 hq) (cwV 2 hts gL_law_X9_slide rfl rfl rfl ⟨rfl, hdX9_slide⟩ ⟨Nat.le_of_ble_eq_true rfl, Nat.le_of_ble_eq_true rfl⟩) hK hN hg (recv_x (ci := 9) (C := RX9) (T := TX9) (N := 27) hg hK (by decide) rfl (by decide) rfl) rfl hl.1 rfl (cat_sum _ (by simp)) dL_law_1113 (show 39 + (sz σ1 - ez E) + 0 ≤ 600000 ∧ 19543 + 9 * (sz σ1 - ez E) + 0 ≤ 7302250 by have q1 := hg.1.2.2.2.2.2.2.2.2.1; unfold tpE at *; omega)) hg (fun r2 σ2 H locs hz1 hm2 hq hg => ?_)
  have ht : sz σ2 ≤ tpE E := Nat.le_trans hm2.2.2 ht
  refine W_narrowL hg hes hez hez0 ?_
  obtain ⟨rfl, hLP⟩ := hq
  refine lv_icmp_eq (tgt := 1395) hx hb dL_law_1116 (by decide) (fun _ => ?_) (fun q => absurd rfl q)
  exact kk σ2 H locs hg ht hLP
