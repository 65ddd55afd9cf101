set_option maxRecDepth 100000 in
set_option maxHeartbeats 4000000 in
theorem lc_zip {p : Program} {l : Launch} {e : Env} {s : State} {m : MethodId} {below : List Frame} {meth : Method} {c : Code} {H : Heap} {locs : List Loc} {ls : Array Slot} {b L i n : Nat} {xs : Nat → Int32} {E : Ev} {σ : SS} (X : LX p s m meth c b L xs E) (hi : i + 5 ≤ L) (hn : n ≤ 1000) (hg : GS E σ s H locs) (ht : sz σ ≤ tpE E) (h : LPz (ez E) n σ) (hl : lv_has ls 4 (lvL E b i)) (kk : LK p l e s m below meth c b E n ls) : W p l e room_1 s m #[Value.ref b] below meth c H locs (39 + (sz σ - ez E)) (19543 + 9 * (sz σ - ez E)) (lw_Z below #[Value.ref b] s) (F0 m 1121 ls []) := by
  obtain ⟨hx, hb, hr, hml, hown, hts, hX, hbl, hlocks, hL, hK, hN, hE0, hes, hez, hez0⟩ := id X
  have hq := lp_zip (x1 := (xs (i + 1)).toInt) (x2 := (xs (i + 2)).toInt) (x3 := (xs (i + 3)).toInt) (tp := tpE E) (n := n) (hBE E) hn h
  refine lv_aload_n hx hb dL_law_1121 rfl (lv_at hl 1 rfl) ?_
  refine l_arg (k := 1) hx hb hX hbl hE0 hg hL (by omega) hl dL_law_1122 dL_law_1123 dL_law_1124 dL_law_1125 dL_law_1126 ?_
  refine l_arg (k := 2) hx hb hX hbl hE0 hg hL (by omega) hl dL_law_1127 dL_law_1128 dL_law_1129 dL_law_1130 dL_law_1131 ?_
  refine l_arg (k := 3) hx hb hX hbl hE0 hg hL (by omega) hl dL_law_1132 dL_law_1133 dL_law_1134 dL_law_1135 dL_law_1136 ?_
  refine call_i (run_V (a := ea E 0) (As := [.int (iI (xs (i + 1)).toInt), .int (iI (xs (i + 2)).toInt), .int (iI (xs (i + 3)).toInt)]) (rest := []) ⟨hx, hb, hml, hown, hts⟩ (ctX8_zip l E (tpE E) (xs (i + 1)).toInt (xs (i + 2)).toInt (xs (i + 3)).toInt σ _ (iI_of _).2 (iI_of _).2 (iI_of _).2 ht hq) (cwV 3 hts gL_law_X8_zip rfl rfl rfl ⟨rfl, hdX8_zip⟩ ⟨Nat.le_of_ble_eq_true rfl, Nat.le_of_ble_eq_true rfl⟩) hK hN hg (recv_x (ci := 8) (C := RX8) (T := TX8) (N := 14) hg hK (by decide) rfl (by decide) rfl) rfl hl.1 rfl (cat_sum _ (by simp)) dL_law_1137 (show 39 + (sz σ - ez E) + (tpE E - sz σ) ≤ 600000 ∧ 19543 + 9 * (sz σ - ez E) + 9 * (tpE E - sz σ) ≤ 7302250 by have q1 := hg.1.2.2.2.2.2.2.2.2.1; unfold tpE at *; omega)) hg (fun r1 σ1 H locs hz0 hm2 hq hg => ?_)
  have ht : sz σ1 ≤ tpE E := hm2.2.2
  refine W_narrowL hg hes hez hez0 ?_
  refine lv_aload_n hx hb dL_law_1140 rfl (lv_at hl 2 rfl) ?_
  refine l_arg (k := 1) hx hb hX hbl hE0 hg hL (by omega) hl dL_law_1141 dL_law_1142 dL_law_1143 dL_law_1144 dL_law_1145 ?_
  refine l_arg (k := 2) hx hb hX hbl hE0 hg hL (by omega) hl dL_law_1146 dL_law_1147 dL_law_1148 dL_law_1149 dL_law_1150 ?_
  refine l_arg (k := 3) hx hb hX hbl hE0 hg hL (by omega) hl dL_law_1151 dL_law_1152 dL_law_1153 dL_law_1154 dL_law_1155 ?_
  refine call_i (run_V (a := ea E 21) (As := [.int (iI (xs (i + 1)).toInt), .int (iI (xs (i + 2)).toInt), .int (iI (xs (i + 3)).toInt)]) (rest := [.int (iI r1)]) ⟨hx, hb, hml, hown, hts⟩ (ctX9_zip l E (xs (i + 1)).toInt (xs (i + 2)).toInt (xs (i + 3)).toInt σ1 _ (iI_of _).2 (iI_of _).2 (iI_of _).2 hq) (cwV 3 hts gL_law_X9_zip rfl rfl rfl ⟨rfl, hdX9_zip⟩ ⟨Nat.le_of_ble_eq_true rfl, Nat.le_of_ble_eq_true rfl⟩) hK hN hg (recv_x (ci := 9) (C := RX9) (T := TX9) (N := 27) hg hK (by decide) rfl (by decide) rfl) rfl hl.1 rfl (cat_sum _ (by simp)) dL_law_1156 (show 39 + (sz σ1 - ez E) + 0 ≤ 600000 ∧ 19543 + 9 * (sz σ1 - ez E) + 0 ≤ 7302250 by have q1 := hg.1.2.2.2.2.2.2.2.2.1; unfold tpE at *; omega)) hg (fun r2 σ2 H locs hz1 hm2 hq hg => ?_)
  have ht : sz σ2 ≤ tpE E := Nat.le_trans hm2.2.2 ht
  refine W_narrowL hg hes hez hez0 ?_
  obtain ⟨rfl, hLP⟩ := hq
  refine lv_icmp_eq (tgt := 1395) hx hb dL_law_1159 (by decide) (fun _ => ?_) (fun q => absurd rfl q)
  exact kk σ2 H locs hg ht hLP
set_option maxRecDepth 100000 in
set_option maxHeartbeats 4000000 in
theorem lc_clears {p : Program} {l : Launch} {e : Env} {s : State} {m : MethodId} {below : List Frame} {meth : Method} {c : Code} {H : Heap} {locs : List Loc} {ls : Array Slot} {b L i n : Nat} {xs : Nat → Int32} {E : Ev} {σ : SS} (X : LX p s m meth c b L xs E) (hi : i + 5 ≤ L) (hn : n ≤ 1000) (hg : GS E σ s H locs) (ht : sz σ ≤ tpE E) (h : LPz (ez E) n σ) (hl : lv_has ls 4 (lvL E b i)) (kk : LK p l e s m below meth c b E n ls) : W p l e room_1 s m #[Value.ref b] below meth c H locs (39 + (sz σ - ez E)) (19543 + 9 * (sz σ - ez E)) (lw_Z below #[Value.ref b] s) (F0 m 1164 ls []) := by
  obtain ⟨hx, hb, hr, hml, hown, hts, hX, hbl, hlocks, hL, hK, hN, hE0, hes, hez, hez0⟩ := id X
  have hq := lp_clears (x1 := (xs (i + 1)).toInt) (x2 := (xs (i + 2)).toInt) (x3 := (xs (i + 3)).toInt) (tp := tpE E) (n := n) (hBE E) hn h
  refine lv_aload_n hx hb dL_law_1164 rfl (lv_at hl 1 rfl) ?_
  refine l_arg (k := 1) hx hb hX hbl hE0 hg hL (by omega) hl dL_law_1165 dL_law_1166 dL_law_1167 dL_law_1168 dL_law_1169 ?_
  refine l_arg (k := 2) hx hb hX hbl hE0 hg hL (by omega) hl dL_law_1170 dL_law_1171 dL_law_1172 dL_law_1173 dL_law_1174 ?_
  refine l_arg (k := 3) hx hb hX hbl hE0 hg hL (by omega) hl dL_law_1175 dL_law_1176 dL_law_1177 dL_law_1178 dL_law_1179 ?_
  refine call_i (run_V (a := ea E 0) (As := [.int (iI (xs (i + 1)).toInt), .int (iI (xs (i + 2)).toInt), .int (iI (xs (i + 3)).toInt)]) (rest := []) ⟨hx, hb, hml, hown, hts⟩ (ctX8_clears l E (tpE E) (xs (i + 1)).toInt (xs (i + 2)).toInt (xs (i + 3)).toInt σ _ (iI_of _).2 (iI_of _).2 (iI_of _).2 ht hq) (cwV 3 hts gL_law_X8_clears rfl rfl rfl ⟨rfl, hdX8_clears⟩ ⟨Nat.le_of_ble_eq_true rfl, Nat.le_of_ble_eq_true rfl⟩) hK hN hg (recv_x (ci := 8) (C := RX8) (T := TX8) (N := 14) hg hK (by decide) rfl (by decide) rfl) rfl hl.1 rfl (cat_sum _ (by simp)) dL_law_1180 (show 39 + (sz σ - ez E) + (tpE E - sz σ) ≤ 600000 ∧ 19543 + 9 * (sz σ - ez E) + 9 * (tpE E - sz σ) ≤ 7302250 by have q1 := hg.1.2.2.2.2.2.2.2.2.1; unfold tpE at *; omega)) hg (fun r1 σ1 H locs hz0 hm2 hq hg => ?_)
  have ht : sz σ1 ≤ tpE E := hm2.2.2
  refine W_narrowL hg hes hez hez0 ?_
  refine lv_aload_n hx hb dL_law_1183 rfl (lv_at hl 2 rfl) ?_
  refine l_arg (k := 1) hx hb hX hbl hE0 hg hL (by omega) hl dL_law_1184 dL_law_1185 dL_law_1186 dL_law_1187 dL_law_1188 ?_
  refine l_arg (k := 2) hx hb hX hbl hE0 hg hL (by omega) hl dL_law_1189 dL_law_1190 dL_law_1191 dL_law_1192 dL_law_1193 ?_
  refine l_arg (k := 3) hx hb hX hbl hE0 hg hL (by omega) hl dL_law_1194 dL_law_1195 dL_law_1196 dL_law_1197 dL_law_1198 ?_
  refine call_i (run_V (a := ea E 21) (As := [.int (iI (xs (i + 1)).toInt), .int (iI (xs (i + 2)).toInt), .int (iI (xs (i + 3)).toInt)]) (rest := [.int (iI r1)]) ⟨hx, hb, hml, hown, hts⟩ (ctX9_clears l E (xs (i + 1)).toInt (xs (i + 2)).toInt (xs (i + 3)).toInt σ1 _ (iI_of _).2 (iI_of _).2 (iI_of _).2 hq) (cwV 3 hts gL_law_X9_clears rfl rfl rfl ⟨rfl, hdX9_clears⟩ ⟨Nat.le_of_ble_eq_true rfl, Nat.le_of_ble_eq_true rfl⟩) hK hN hg (recv_x (ci := 9) (C := RX9) (T := TX9) (N := 27) hg hK (by decide) rfl (by decide) rfl) rfl hl.1 rfl (cat_sum _ (by simp)) dL_law_1199 (show 39 + (sz σ1 - ez E) + 0 ≤ 600000 ∧ 19543 + 9 * (sz σ1 - ez E) + 0 ≤ 7302250 by have q1 := hg.1.2.2.2.2.2.2.2.2.1; unfold tpE at *; omega)) hg (fun r2 σ2 H locs hz1 hm2 hq hg => ?_)
  have ht : sz σ2 ≤ tpE E := Nat.le_trans hm2.2.2 ht
  refine W_narrowL hg hes hez hez0 ?_
  obtain ⟨rfl, hLP⟩ := hq
  refine lv_icmp_eq (tgt := 1395) hx hb dL_law_1202 (by decide) (fun _ => ?_) (fun q => absurd rfl q)
  exact kk σ2 H locs hg ht hLP
set_option maxRecDepth 100000 in
set_option maxHeartbeats 4000000 in
theorem lc_scatter {p : Program} {l : Launch} {e : Env} {s : State} {m : MethodId} {below : List Frame} {meth : Method} {c : Code} {H : Heap} {locs : List Loc} {ls : Array Slot} {b L i n : Nat} {xs : Nat → Int32} {E : Ev} {σ : SS} (X : LX p s m meth c b L xs E) (hi : i + 5 ≤ L) (hn : n ≤ 1000) (hg : GS E σ s H locs) (ht : sz σ ≤ tpE E) (h : LPz (ez E) n σ) (hl : lv_has ls 4 (lvL E b i)) (kk : LK p l e s m below meth c b E n ls) : W p l e room_1 s m #[Value.ref b] below meth c H locs (39 + (sz σ - ez E)) (19543 + 9 * (sz σ - ez E)) (lw_Z below #[Value.ref b] s) (F0 m 1207 ls []) := by
  obtain ⟨hx, hb, hr, hml, hown, hts, hX, hbl, hlocks, hL, hK, hN, hE0, hes, hez, hez0⟩ := id X
  have hq := lp_scatter (x1 := (xs (i + 1)).toInt) (x2 := (xs (i + 2)).toInt) (x3 := (xs (i + 3)).toInt) (tp := tpE E) (n := n) (hBE E) hn h
  refine lv_aload_n hx hb dL_law_1207 rfl (lv_at hl 1 rfl) ?_
  refine l_arg (k := 1) hx hb hX hbl hE0 hg hL (by omega) hl dL_law_1208 dL_law_1209 dL_law_1210 dL_law_1211 dL_law_1212 ?_
  refine l_arg (k := 2) hx hb hX hbl hE0 hg hL (by omega) hl dL_law_1213 dL_law_1214 dL_law_1215 dL_law_1216 dL_law_1217 ?_
  refine l_arg (k := 3) hx hb hX hbl hE0 hg hL (by omega) hl dL_law_1218 dL_law_1219 dL_law_1220 dL_law_1221 dL_law_1222 ?_
  refine call_i (run_V (a := ea E 0) (As := [.int (iI (xs (i + 1)).toInt), .int (iI (xs (i + 2)).toInt), .int (iI (xs (i + 3)).toInt)]) (rest := []) ⟨hx, hb, hml, hown, hts⟩ (ctX8_scatter l E (tpE E) (xs (i + 1)).toInt (xs (i + 2)).toInt (xs (i + 3)).toInt σ _ (iI_of _).2 (iI_of _).2 (iI_of _).2 ht hq) (cwV 3 hts gL_law_X8_scatter rfl rfl rfl ⟨rfl, hdX8_scatter⟩ ⟨Nat.le_of_ble_eq_true rfl, Nat.le_of_ble_eq_true rfl⟩) hK hN hg (recv_x (ci := 8) (C := RX8) (T := TX8) (N := 14) hg hK (by decide) rfl (by decide) rfl) rfl hl.1 rfl (cat_sum _ (by simp)) dL_law_1223 (show 39 + (sz σ - ez E) + (tpE E - sz σ) ≤ 600000 ∧ 19543 + 9 * (sz σ - ez E) + 9 * (tpE E - sz σ) ≤ 7302250 by have q1 := hg.1.2.2.2.2.2.2.2.2.1; unfold tpE at *; omega)) hg (fun r1 σ1 H locs hz0 hm2 hq hg => ?_)
  have ht : sz σ1 ≤ tpE E := hm2.2.2
  refine W_narrowL hg hes hez hez0 ?_
  refine lv_aload_n hx hb dL_law_1226 rfl (lv_at hl 2 rfl) ?_
  refine l_arg (k := 1) hx hb hX hbl hE0 hg hL (by omega) hl dL_law_1227 dL_law_1228 dL_law_1229 dL_law_1230 dL_law_1231 ?_
  refine l_arg (k := 2) hx hb hX hbl hE0 hg hL (by omega) hl dL_law_1232 dL_law_1233 dL_law_1234 dL_law_1235 dL_law_1236 ?_
  refine l_arg (k := 3) hx hb hX hbl hE0 hg hL (by omega) hl dL_law_1237 dL_law_1238 dL_law_1239 dL_law_1240 dL_law_1241 ?_
  refine call_i (run_V (a := ea E 21) (As := [.int (iI (xs (i + 1)).toInt), .int (iI (xs (i + 2)).toInt), .int (iI (xs (i + 3)).toInt)]) (rest := [.int (iI r1)]) ⟨hx, hb, hml, hown, hts⟩ (ctX9_scatter l E (xs (i + 1)).toInt (xs (i + 2)).toInt (xs (i + 3)).toInt σ1 _ (iI_of _).2 (iI_of _).2 (iI_of _).2 hq) (cwV 3 hts gL_law_X9_scatter rfl rfl rfl ⟨rfl, hdX9_scatter⟩ ⟨Nat.le_of_ble_eq_true rfl, Nat.le_of_ble_eq_true rfl⟩) hK hN hg (recv_x (ci := 9) (C := RX9) (T := TX9) (N := 27) hg hK (by decide) rfl (by decide) rfl) rfl hl.1 rfl (cat_sum _ (by simp)) dL_law_1242 (show 39 + (sz σ1 - ez E) + 0 ≤ 600000 ∧ 19543 + 9 * (sz σ1 - ez E) + 0 ≤ 7302250 by have q1 := hg.1.2.2.2.2.2.2.2.2.1; unfold tpE at *; omega)) hg (fun r2 σ2 H locs hz1 hm2 hq hg => ?_)
  have ht : sz σ2 ≤ tpE E := Nat.le_trans hm2.2.2 ht
  refine W_narrowL hg hes hez hez0 ?_
  obtain ⟨rfl, hLP⟩ := hq
  refine lv_icmp_eq (tgt := 1395) hx hb dL_law_1245 (by decide) (fun _ => ?_) (fun q => absurd rfl q)
  exact kk σ2 H locs hg ht hLP
set_option maxRecDepth 100000 in
set_option maxHeartbeats 4000000 in
theorem lc_sound {p : Program} {l : Launch} {e : Env} {s : State} {m : MethodId} {below : List Frame} {meth : Method} {c : Code} {H : Heap} {locs : List Loc} {ls : Array Slot} {b L i n : Nat} {xs : Nat → Int32} {E : Ev} {σ : SS} (X : LX p s m meth c b L xs E) (hi : i + 5 ≤ L) (hn : n ≤ 1000) (hg : GS E σ s H locs) (ht : sz σ ≤ tpE E) (h : LPz (ez E) n σ) (hl : lv_has ls 4 (lvL E b i)) (kk : LK p l e s m below meth c b E n ls) : W p l e room_1 s m #[Value.ref b] below meth c H locs (39 + (sz σ - ez E)) (19543 + 9 * (sz σ - ez E)) (lw_Z below #[Value.ref b] s) (F0 m 1250 ls []) := by
  obtain ⟨hx, hb, hr, hml, hown, hts, hX, hbl, hlocks, hL, hK, hN, hE0, hes, hez, hez0⟩ := id X
  have hq := lp_sound (x1 := (xs (i + 1)).toInt) (tp := tpE E) (n := n) (hBE E) hn h
  refine lv_aload_n hx hb dL_law_1250 rfl (lv_at hl 1 rfl) ?_
  refine l_arg (k := 1) hx hb hX hbl hE0 hg hL (by omega) hl dL_law_1251 dL_law_1252 dL_law_1253 dL_law_1254 dL_law_1255 ?_
  refine call_i (run_V (a := ea E 0) (As := [.int (iI (xs (i + 1)).toInt)]) (rest := []) ⟨hx, hb, hml, hown, hts⟩ (ctX8_sound l E (xs (i + 1)).toInt σ _ (iI_of _).2 hq) (cwV 1 hts gL_law_X8_sound rfl rfl rfl ⟨rfl, hdX8_sound⟩ ⟨Nat.le_of_ble_eq_true rfl, Nat.le_of_ble_eq_true rfl⟩) hK hN hg (recv_x (ci := 8) (C := RX8) (T := TX8) (N := 14) hg hK (by decide) rfl (by decide) rfl) rfl hl.1 rfl (cat_sum _ (by simp)) dL_law_1256 (show 39 + (sz σ - ez E) + 0 ≤ 600000 ∧ 19543 + 9 * (sz σ - ez E) + 0 ≤ 7302250 by have q1 := hg.1.2.2.2.2.2.2.2.2.1; unfold tpE at *; omega)) hg (fun r1 σ1 H locs hz0 hm2 hq hg => ?_)
  have ht : sz σ1 ≤ tpE E := Nat.le_trans hm2.2.2 ht
  refine W_narrowL hg hes hez hez0 ?_
  refine lv_aload_n hx hb dL_law_1259 rfl (lv_at hl 2 rfl) ?_
  refine l_arg (k := 1) hx hb hX hbl hE0 hg hL (by omega) hl dL_law_1260 dL_law_1261 dL_law_1262 dL_law_1263 dL_law_1264 ?_
  refine call_i (run_V (a := ea E 21) (As := [.int (iI (xs (i + 1)).toInt)]) (rest := [.int (iI r1)]) ⟨hx, hb, hml, hown, hts⟩ (ctX9_sound l E (xs (i + 1)).toInt σ1 _ (iI_of _).2 hq) (cwV 1 hts gL_law_X9_sound rfl rfl rfl ⟨rfl, hdX9_sound⟩ ⟨Nat.le_of_ble_eq_true rfl, Nat.le_of_ble_eq_true rfl⟩) hK hN hg (recv_x (ci := 9) (C := RX9) (T := TX9) (N := 27) hg hK (by decide) rfl (by decide) rfl) rfl hl.1 rfl (cat_sum _ (by simp)) dL_law_1265 (show 39 + (sz σ1 - ez E) + 0 ≤ 600000 ∧ 19543 + 9 * (sz σ1 - ez E) + 0 ≤ 7302250 by have q1 := hg.1.2.2.2.2.2.2.2.2.1; unfold tpE at *; omega)) hg (fun r2 σ2 H locs hz1 hm2 hq hg => ?_)
  have ht : sz σ2 ≤ tpE E := Nat.le_trans hm2.2.2 ht
  refine W_narrowL hg hes hez hez0 ?_
  obtain ⟨rfl, hLP⟩ := hq
  refine lv_icmp_eq (tgt := 1395) hx hb dL_law_1268 (by decide) (fun _ => ?_) (fun q => absurd rfl q)
  exact kk σ2 H locs hg ht hLP
set_option maxRecDepth 100000 in
set_option maxHeartbeats 4000000 in
theorem lc_mixer {p : Program} {l : Launch} {e : Env} {s : State} {m : MethodId} {below : List Frame} {meth : Method} {c : Code} {H : Heap} {locs : List Loc} {ls : Array Slot} {b L i n : Nat} {xs : Nat → Int32} {E : Ev} {σ : SS} (X : LX p s m meth c b L xs E) (hi : i + 5 ≤ L) (hn : n ≤ 1000) (hg : GS E σ s H locs) (ht : sz σ ≤ tpE E) (h : LPz (ez E) n σ) (hl : lv_has ls 4 (lvL E b i)) (kk : LK p l e s m below meth c b E n ls) : W p l e room_1 s m #[Value.ref b] below meth c H locs (39 + (sz σ - ez E)) (19543 + 9 * (sz σ - ez E)) (lw_Z below #[Value.ref b] s) (F0 m 1273 ls []) := by
  obtain ⟨hx, hb, hr, hml, hown, hts, hX, hbl, hlocks, hL, hK, hN, hE0, hes, hez, hez0⟩ := id X
  have hq := lp_mixer (x1 := (xs (i + 1)).toInt) (tp := tpE E) (n := n) (hBE E) hn h
  refine lv_aload_n hx hb dL_law_1273 rfl (lv_at hl 1 rfl) ?_
  refine l_arg (k := 1) hx hb hX hbl hE0 hg hL (by omega) hl dL_law_1274 dL_law_1275 dL_law_1276 dL_law_1277 dL_law_1278 ?_
  refine call_i (run_V (a := ea E 0) (As := [.int (iI (xs (i + 1)).toInt)]) (rest := []) ⟨hx, hb, hml, hown, hts⟩ (ctX8_mixer l E (xs (i + 1)).toInt σ _ (iI_of _).2 hq) (cwV 1 hts gL_law_X8_mixer rfl rfl rfl ⟨rfl, hdX8_mixer⟩ ⟨Nat.le_of_ble_eq_true rfl, Nat.le_of_ble_eq_true rfl⟩) hK hN hg (recv_x (ci := 8) (C := RX8) (T := TX8) (N := 14) hg hK (by decide) rfl (by decide) rfl) rfl hl.1 rfl (cat_sum _ (by simp)) dL_law_1279 (show 39 + (sz σ - ez E) + 0 ≤ 600000 ∧ 19543 + 9 * (sz σ - ez E) + 0 ≤ 7302250 by have q1 := hg.1.2.2.2.2.2.2.2.2.1; unfold tpE at *; omega)) hg (fun r1 σ1 H locs hz0 hm2 hq hg => ?_)
  have ht : sz σ1 ≤ tpE E := Nat.le_trans hm2.2.2 ht
  refine W_narrowL hg hes hez hez0 ?_
  refine lv_aload_n hx hb dL_law_1282 rfl (lv_at hl 2 rfl) ?_
  refine l_arg (k := 1) hx hb hX hbl hE0 hg hL (by omega) hl dL_law_1283 dL_law_1284 dL_law_1285 dL_law_1286 dL_law_1287 ?_
  refine call_i (run_V (a := ea E 21) (As := [.int (iI (xs (i + 1)).toInt)]) (rest := [.int (iI r1)]) ⟨hx, hb, hml, hown, hts⟩ (ctX9_mixer l E (xs (i + 1)).toInt σ1 _ (iI_of _).2 hq) (cwV 1 hts gL_law_X9_mixer rfl rfl rfl ⟨rfl, hdX9_mixer⟩ ⟨Nat.le_of_ble_eq_true rfl, Nat.le_of_ble_eq_true rfl⟩) hK hN hg (recv_x (ci := 9) (C := RX9) (T := TX9) (N := 27) hg hK (by decide) rfl (by decide) rfl) rfl hl.1 rfl (cat_sum _ (by simp)) dL_law_1288 (show 39 + (sz σ1 - ez E) + 0 ≤ 600000 ∧ 19543 + 9 * (sz σ1 - ez E) + 0 ≤ 7302250 by have q1 := hg.1.2.2.2.2.2.2.2.2.1; unfold tpE at *; omega)) hg (fun r2 σ2 H locs hz1 hm2 hq hg => ?_)
  have ht : sz σ2 ≤ tpE E := Nat.le_trans hm2.2.2 ht
  refine W_narrowL hg hes hez hez0 ?_
  obtain ⟨rfl, hLP⟩ := hq
  refine lv_icmp_eq (tgt := 1395) hx hb dL_law_1291 (by decide) (fun _ => ?_) (fun q => absurd rfl q)
  exact kk σ2 H locs hg ht hLP
set_option maxRecDepth 100000 in
set_option maxHeartbeats 4000000 in
theorem lc_type {p : Program} {l : Launch} {e : Env} {s : State} {m : MethodId} {below : List Frame} {meth : Method} {c : Code} {H : Heap} {locs : List Loc} {ls : Array Slot} {b L i n : Nat} {xs : Nat → Int32} {E : Ev} {σ : SS} (X : LX p s m meth c b L xs E) (hi : i + 5 ≤ L) (hn : n ≤ 1000) (hg : GS E σ s H locs) (ht : sz σ ≤ tpE E) (h : LPz (ez E) n σ) (hl : lv_has ls 4 (lvL E b i)) (kk : LK p l e s m below meth c b E n ls) : W p l e room_1 s m #[Value.ref b] below meth c H locs (39 + (sz σ - ez E)) (19543 + 9 * (sz σ - ez E)) (lw_Z below #[Value.ref b] s) (F0 m 1296 ls []) := by
  obtain ⟨hx, hb, hr, hml, hown, hts, hX, hbl, hlocks, hL, hK, hN, hE0, hes, hez, hez0⟩ := id X
  have hq := lp_type (x1 := (xs (i + 1)).toInt) (tp := tpE E) (n := n) (hBE E) hn h
  refine lv_aload_n hx hb dL_law_1296 rfl (lv_at hl 1 rfl) ?_
  refine l_arg (k := 1) hx hb hX hbl hE0 hg hL (by omega) hl dL_law_1297 dL_law_1298 dL_law_1299 dL_law_1300 dL_law_1301 ?_
  refine call_i (run_V (a := ea E 0) (As := [.int (iI (xs (i + 1)).toInt)]) (rest := []) ⟨hx, hb, hml, hown, hts⟩ (ctX8_type l E (xs (i + 1)).toInt σ _ (iI_of _).2 hq) (cwV 1 hts gL_law_X8_type rfl rfl rfl ⟨rfl, hdX8_type⟩ ⟨Nat.le_of_ble_eq_true rfl, Nat.le_of_ble_eq_true rfl⟩) hK hN hg (recv_x (ci := 8) (C := RX8) (T := TX8) (N := 14) hg hK (by decide) rfl (by decide) rfl) rfl hl.1 rfl (cat_sum _ (by simp)) dL_law_1302 (show 39 + (sz σ - ez E) + 0 ≤ 600000 ∧ 19543 + 9 * (sz σ - ez E) + 0 ≤ 7302250 by have q1 := hg.1.2.2.2.2.2.2.2.2.1; unfold tpE at *; omega)) hg (fun r1 σ1 H locs hz0 hm2 hq hg => ?_)
  have ht : sz σ1 ≤ tpE E := Nat.le_trans hm2.2.2 ht
  refine W_narrowL hg hes hez hez0 ?_
  refine lv_aload_n hx hb dL_law_1305 rfl (lv_at hl 2 rfl) ?_
  refine l_arg (k := 1) hx hb hX hbl hE0 hg hL (by omega) hl dL_law_1306 dL_law_1307 dL_law_1308 dL_law_1309 dL_law_1310 ?_
  refine call_i (run_V (a := ea E 21) (As := [.int (iI (xs (i + 1)).toInt)]) (rest := [.int (iI r1)]) ⟨hx, hb, hml, hown, hts⟩ (ctX9_type l E (xs (i + 1)).toInt σ1 _ (iI_of _).2 hq) (cwV 1 hts gL_law_X9_type rfl rfl rfl ⟨rfl, hdX9_type⟩ ⟨Nat.le_of_ble_eq_true rfl, Nat.le_of_ble_eq_true rfl⟩) hK hN hg (recv_x (ci := 9) (C := RX9) (T := TX9) (N := 27) hg hK (by decide) rfl (by decide) rfl) rfl hl.1 rfl (cat_sum _ (by simp)) dL_law_1311 (show 39 + (sz σ1 - ez E) + 0 ≤ 600000 ∧ 19543 + 9 * (sz σ1 - ez E) + 0 ≤ 7302250 by have q1 := hg.1.2.2.2.2.2.2.2.2.1; unfold tpE at *; omega)) hg (fun r2 σ2 H locs hz1 hm2 hq hg => ?_)
  have ht : sz σ2 ≤ tpE E := Nat.le_trans hm2.2.2 ht
  refine W_narrowL hg hes hez hez0 ?_
  obtain ⟨rfl, hLP⟩ := hq
  refine lv_icmp_eq (tgt := 1395) hx hb dL_law_1314 (by decide) (fun _ => ?_) (fun q => absurd rfl q)
  exact kk σ2 H locs hg ht hLP
set_option maxRecDepth 100000 in
set_option maxHeartbeats 4000000 in
theorem lc_clear {p : Program} {l : Launch} {e : Env} {s : State} {m : MethodId} {below : List Frame} {meth : Method} {c : Code} {H : Heap} {locs : List Loc} {ls : Array Slot} {b L i n : Nat} {xs : Nat → Int32} {E : Ev} {σ : SS} (X : LX p s m meth c b L xs E) (hi : i + 5 ≤ L) (hn : n ≤ 1000) (hg : GS E σ s H locs) (ht : sz σ ≤ tpE E) (h : LPz (ez E) n σ) (hl : lv_has ls 4 (lvL E b i)) (kk : LK p l e s m below meth c b E n ls) : W p l e room_1 s m #[Value.ref b] below meth c H locs (39 + (sz σ - ez E)) (19543 + 9 * (sz σ - ez E)) (lw_Z below #[Value.ref b] s) (F0 m 1319 ls []) := by
  obtain ⟨hx, hb, hr, hml, hown, hts, hX, hbl, hlocks, hL, hK, hN, hE0, hes, hez, hez0⟩ := id X
  have hq := lp_clear (tp := tpE E) (n := n) (hBE E) hn h
  refine lv_aload_n hx hb dL_law_1319 rfl (lv_at hl 1 rfl) ?_
  refine call_i (run_V (a := ea E 0) (As := []) (rest := []) ⟨hx, hb, hml, hown, hts⟩ (ctX8_clear l E σ _ hq) (cwV 0 hts gL_law_X8_clear rfl rfl rfl ⟨rfl, hdX8_clear⟩ ⟨Nat.le_of_ble_eq_true rfl, Nat.le_of_ble_eq_true rfl⟩) hK hN hg (recv_x (ci := 8) (C := RX8) (T := TX8) (N := 14) hg hK (by decide) rfl (by decide) rfl) rfl hl.1 rfl (cat_sum _ (by simp)) dL_law_1320 (show 39 + (sz σ - ez E) + 0 ≤ 600000 ∧ 19543 + 9 * (sz σ - ez E) + 0 ≤ 7302250 by have q1 := hg.1.2.2.2.2.2.2.2.2.1; unfold tpE at *; omega)) hg (fun r1 σ1 H locs hz0 hm2 hq hg => ?_)
  have ht : sz σ1 ≤ tpE E := Nat.le_trans hm2.2.2 ht
  refine W_narrowL hg hes hez hez0 ?_
  refine lv_aload_n hx hb dL_law_1323 rfl (lv_at hl 2 rfl) ?_
  refine call_i (run_V (a := ea E 21) (As := []) (rest := [.int (iI r1)]) ⟨hx, hb, hml, hown, hts⟩ (ctX9_clear l E σ1 _ hq) (cwV 0 hts gL_law_X9_clear rfl rfl rfl ⟨rfl, hdX9_clear⟩ ⟨Nat.le_of_ble_eq_true rfl, Nat.le_of_ble_eq_true rfl⟩) hK hN hg (recv_x (ci := 9) (C := RX9) (T := TX9) (N := 27) hg hK (by decide) rfl (by decide) rfl) rfl hl.1 rfl (cat_sum _ (by simp)) dL_law_1324 (show 39 + (sz σ1 - ez E) + 0 ≤ 600000 ∧ 19543 + 9 * (sz σ1 - ez E) + 0 ≤ 7302250 by have q1 := hg.1.2.2.2.2.2.2.2.2.1; unfold tpE at *; omega)) hg (fun r2 σ2 H locs hz1 hm2 hq hg => ?_)
  have ht : sz σ2 ≤ tpE E := Nat.le_trans hm2.2.2 ht
  refine W_narrowL hg hes hez hez0 ?_
  obtain ⟨rfl, hLP⟩ := hq
  refine lv_icmp_eq (tgt := 1395) hx hb dL_law_1327 (by decide) (fun _ => ?_) (fun q => absurd rfl q)
  exact kk σ2 H locs hg ht hLP
set_option maxRecDepth 100000 in
set_option maxHeartbeats 4000000 in
theorem lc_sums {p : Program} {l : Launch} {e : Env} {s : State} {m : MethodId} {below : List Frame} {meth : Method} {c : Code} {H : Heap} {locs : List Loc} {ls : Array Slot} {b L i n : Nat} {xs : Nat → Int32} {E : Ev} {σ : SS} (X : LX p s m meth c b L xs E) (hi : i + 5 ≤ L) (hn : n ≤ 1000) (hg : GS E σ s H locs) (ht : sz σ ≤ tpE E) (h : LPz (ez E) n σ) (hl : lv_has ls 4 (lvL E b i)) (kk : LK p l e s m below meth c b E n ls) : W p l e room_1 s m #[Value.ref b] below meth c H locs (39 + (sz σ - ez E)) (19543 + 9 * (sz σ - ez E)) (lw_Z below #[Value.ref b] s) (F0 m 1332 ls []) := by
  obtain ⟨hx, hb, hr, hml, hown, hts, hX, hbl, hlocks, hL, hK, hN, hE0, hes, hez, hez0⟩ := id X
  have hq := lp_sums (tp := tpE E) (n := n) (hBE E) hn h
  refine lv_aload_n hx hb dL_law_1332 rfl (lv_at hl 1 rfl) ?_
  refine call_i (run_V (a := ea E 0) (As := []) (rest := []) ⟨hx, hb, hml, hown, hts⟩ (ctX8_sums l E (tpE E) σ _ ht hq) (cwV 0 hts gL_law_X8_sums rfl rfl rfl ⟨rfl, hdX8_sums⟩ ⟨Nat.le_of_ble_eq_true rfl, Nat.le_of_ble_eq_true rfl⟩) hK hN hg (recv_x (ci := 8) (C := RX8) (T := TX8) (N := 14) hg hK (by decide) rfl (by decide) rfl) rfl hl.1 rfl (cat_sum _ (by simp)) dL_law_1333 (show 39 + (sz σ - ez E) + (tpE E - sz σ) ≤ 600000 ∧ 19543 + 9 * (sz σ - ez E) + 9 * (tpE E - sz σ) ≤ 7302250 by have q1 := hg.1.2.2.2.2.2.2.2.2.1; unfold tpE at *; omega)) hg (fun r1 σ1 H locs hz0 hm2 hq hg => ?_)
  have ht : sz σ1 ≤ tpE E := hm2.2.2
  refine W_narrowL hg hes hez hez0 ?_
  refine lv_aload_n hx hb dL_law_1336 rfl (lv_at hl 2 rfl) ?_
  refine call_i (run_V (a := ea E 21) (As := []) (rest := [.int (iI r1)]) ⟨hx, hb, hml, hown, hts⟩ (ctX9_sums l E σ1 _ hq) (cwV 0 hts gL_law_X9_sums rfl rfl rfl ⟨rfl, hdX9_sums⟩ ⟨Nat.le_of_ble_eq_true rfl, Nat.le_of_ble_eq_true rfl⟩) hK hN hg (recv_x (ci := 9) (C := RX9) (T := TX9) (N := 27) hg hK (by decide) rfl (by decide) rfl) rfl hl.1 rfl (cat_sum _ (by simp)) dL_law_1337 (show 39 + (sz σ1 - ez E) + 0 ≤ 600000 ∧ 19543 + 9 * (sz σ1 - ez E) + 0 ≤ 7302250 by have q1 := hg.1.2.2.2.2.2.2.2.2.1; unfold tpE at *; omega)) hg (fun r2 σ2 H locs hz1 hm2 hq hg => ?_)
  have ht : sz σ2 ≤ tpE E := Nat.le_trans hm2.2.2 ht
  refine W_narrowL hg hes hez hez0 ?_
  obtain ⟨rfl, hLP⟩ := hq
  refine lv_icmp_eq (tgt := 1395) hx hb dL_law_1340 (by decide) (fun _ => ?_) (fun q => absurd rfl q)
  exact kk σ2 H locs hg ht hLP
set_option maxRecDepth 100000 in
set_option maxHeartbeats 4000000 in
theorem lc_back {p : Program} {l : Launch} {e : Env} {s : State} {m : MethodId} {below : List Frame} {meth : Method} {c : Code} {H : Heap} {locs : List Loc} {ls : Array Slot} {b L i n : Nat} {xs : Nat → Int32} {E : Ev} {σ : SS} (X : LX p s m meth c b L xs E) (hi : i + 5 ≤ L) (hn : n ≤ 1000) (hg : GS E σ s H locs) (ht : sz σ ≤ tpE E) (h : LPz (ez E) n σ) (hl : lv_has ls 4 (lvL E b i)) (kk : LK p l e s m below meth c b E n ls) : W p l e room_1 s m #[Value.ref b] below meth c H locs (39 + (sz σ - ez E)) (19543 + 9 * (sz σ - ez E)) (lw_Z below #[Value.ref b] s) (F0 m 1345 ls []) := by
  obtain ⟨hx, hb, hr, hml, hown, hts, hX, hbl, hlocks, hL, hK, hN, hE0, hes, hez, hez0⟩ := id X
  have hq := lp_back (tp := tpE E) (n := n) (hBE E) hn h
  refine lv_aload_n hx hb dL_law_1345 rfl (lv_at hl 1 rfl) ?_
  refine call_i (run_V (a := ea E 0) (As := []) (rest := []) ⟨hx, hb, hml, hown, hts⟩ (ctX8_back l E σ _ hq) (cwV 0 hts gL_law_X8_back rfl rfl rfl ⟨rfl, hdX8_back⟩ ⟨Nat.le_of_ble_eq_true rfl, Nat.le_of_ble_eq_true rfl⟩) hK hN hg (recv_x (ci := 8) (C := RX8) (T := TX8) (N := 14) hg hK (by decide) rfl (by decide) rfl) rfl hl.1 rfl (cat_sum _ (by simp)) dL_law_1346 (show 39 + (sz σ - ez E) + 0 ≤ 600000 ∧ 19543 + 9 * (sz σ - ez E) + 0 ≤ 7302250 by have q1 := hg.1.2.2.2.2.2.2.2.2.1; unfold tpE at *; omega)) hg (fun r1 σ1 H locs hz0 hm2 hq hg => ?_)
  have ht : sz σ1 ≤ tpE E := Nat.le_trans hm2.2.2 ht
  refine W_narrowL hg hes hez hez0 ?_
  refine lv_aload_n hx hb dL_law_1349 rfl (lv_at hl 2 rfl) ?_
  refine call_i (run_V (a := ea E 21) (As := []) (rest := [.int (iI r1)]) ⟨hx, hb, hml, hown, hts⟩ (ctX9_back l E σ1 _ hq) (cwV 0 hts gL_law_X9_back rfl rfl rfl ⟨rfl, hdX9_back⟩ ⟨Nat.le_of_ble_eq_true rfl, Nat.le_of_ble_eq_true rfl⟩) hK hN hg (recv_x (ci := 9) (C := RX9) (T := TX9) (N := 27) hg hK (by decide) rfl (by decide) rfl) rfl hl.1 rfl (cat_sum _ (by simp)) dL_law_1350 (show 39 + (sz σ1 - ez E) + 0 ≤ 600000 ∧ 19543 + 9 * (sz σ1 - ez E) + 0 ≤ 7302250 by have q1 := hg.1.2.2.2.2.2.2.2.2.1; unfold tpE at *; omega)) hg (fun r2 σ2 H locs hz1 hm2 hq hg => ?_)
  have ht : sz σ2 ≤ tpE E := Nat.le_trans hm2.2.2 ht
  refine W_narrowL hg hes hez hez0 ?_
  obtain ⟨rfl, hLP⟩ := hq
  refine lv_icmp_eq (tgt := 1395) hx hb dL_law_1353 (by decide) (fun _ => ?_) (fun q => absurd rfl q)
  exact kk σ2 H locs hg ht hLP
set_option maxRecDepth 100000 in
set_option maxHeartbeats 4000000 in
theorem lc_told {p : Program} {l : Launch} {e : Env} {s : State} {m : MethodId} {below : List Frame} {meth : Method} {c : Code} {H : Heap} {locs : List Loc} {ls : Array Slot} {b L i n : Nat} {xs : Nat → Int32} {E : Ev} {σ : SS} (X : LX p s m meth c b L xs E) (hi : i + 5 ≤ L) (hn : n ≤ 1000) (hg : GS E σ s H locs) (ht : sz σ ≤ tpE E) (h : LPz (ez E) n σ) (hl : lv_has ls 4 (lvL E b i)) (kk : LK p l e s m below meth c b E n ls) : W p l e room_1 s m #[Value.ref b] below meth c H locs (39 + (sz σ - ez E)) (19543 + 9 * (sz σ - ez E)) (lw_Z below #[Value.ref b] s) (F0 m 1358 ls []) := by
  obtain ⟨hx, hb, hr, hml, hown, hts, hX, hbl, hlocks, hL, hK, hN, hE0, hes, hez, hez0⟩ := id X
  have hq := lp_told (x1 := (xs (i + 1)).toInt) (tp := tpE E) (n := n) (hBE E) hn h
  refine lv_aload_n hx hb dL_law_1358 rfl (lv_at hl 1 rfl) ?_
  refine l_arg (k := 1) hx hb hX hbl hE0 hg hL (by omega) hl dL_law_1359 dL_law_1360 dL_law_1361 dL_law_1362 dL_law_1363 ?_
  refine call_i (run_V (a := ea E 0) (As := [.int (iI (xs (i + 1)).toInt)]) (rest := []) ⟨hx, hb, hml, hown, hts⟩ (ctX8_told l E (xs (i + 1)).toInt σ _ (iI_of _).2 hq) (cwV 1 hts gL_law_X8_told rfl rfl rfl ⟨rfl, hdX8_told⟩ ⟨Nat.le_of_ble_eq_true rfl, Nat.le_of_ble_eq_true rfl⟩) hK hN hg (recv_x (ci := 8) (C := RX8) (T := TX8) (N := 14) hg hK (by decide) rfl (by decide) rfl) rfl hl.1 rfl (cat_sum _ (by simp)) dL_law_1364 (show 39 + (sz σ - ez E) + 0 ≤ 600000 ∧ 19543 + 9 * (sz σ - ez E) + 0 ≤ 7302250 by have q1 := hg.1.2.2.2.2.2.2.2.2.1; unfold tpE at *; omega)) hg (fun r1 σ1 H locs hz0 hm2 hq hg => ?_)
  have ht : sz σ1 ≤ tpE E := Nat.le_trans hm2.2.2 ht
  refine W_narrowL hg hes hez hez0 ?_
  refine lv_aload_n hx hb dL_law_1367 rfl (lv_at hl 2 rfl) ?_
  refine l_arg (k := 1) hx hb hX hbl hE0 hg hL (by omega) hl dL_law_1368 dL_law_1369 dL_law_1370 dL_law_1371 dL_law_1372 ?_
  refine call_i (run_V (a := ea E 21) (As := [.int (iI (xs (i + 1)).toInt)]) (rest := [.int (iI r1)]) ⟨hx, hb, hml, hown, hts⟩ (ctX9_told l E (xs (i + 1)).toInt σ1 _ (iI_of _).2 hq) (cwV 1 hts gL_law_X9_told rfl rfl rfl ⟨rfl, hdX9_told⟩ ⟨Nat.le_of_ble_eq_true rfl, Nat.le_of_ble_eq_true rfl⟩) hK hN hg (recv_x (ci := 9) (C := RX9) (T := TX9) (N := 27) hg hK (by decide) rfl (by decide) rfl) rfl hl.1 rfl (cat_sum _ (by simp)) dL_law_1373 (show 39 + (sz σ1 - ez E) + 0 ≤ 600000 ∧ 19543 + 9 * (sz σ1 - ez E) + 0 ≤ 7302250 by have q1 := hg.1.2.2.2.2.2.2.2.2.1; unfold tpE at *; omega)) hg (fun r2 σ2 H locs hz1 hm2 hq hg => ?_)
  have ht : sz σ2 ≤ tpE E := Nat.le_trans hm2.2.2 ht
  refine W_narrowL hg hes hez hez0 ?_
  obtain ⟨rfl, hLP⟩ := hq
  refine lv_icmp_eq (tgt := 1395) hx hb dL_law_1376 (by decide) (fun _ => ?_) (fun q => absurd rfl q)
  exact kk σ2 H locs hg ht hLP
set_option maxRecDepth 100000 in
set_option maxHeartbeats 4000000 in
theorem lc_digest {p : Program} {l : Launch} {e : Env} {s : State} {m : MethodId} {below : List Frame} {meth : Method} {c : Code} {H : Heap} {locs : List Loc} {ls : Array Slot} {b L i n : Nat} {xs : Nat → Int32} {E : Ev} {σ : SS} (X : LX p s m meth c b L xs E) (hi : i + 5 ≤ L) (hn : n ≤ 1000) (hg : GS E σ s H locs) (ht : sz σ ≤ tpE E) (h : LPz (ez E) n σ) (hl : lv_has ls 4 (lvL E b i)) (kk : LK p l e s m below meth c b E n ls) : W p l e room_1 s m #[Value.ref b] below meth c H locs (39 + (sz σ - ez E)) (19543 + 9 * (sz σ - ez E)) (lw_Z below #[Value.ref b] s) (F0 m 1381 ls []) := by
  obtain ⟨hx, hb, hr, hml, hown, hts, hX, hbl, hlocks, hL, hK, hN, hE0, hes, hez, hez0⟩ := id X
  have hq := lp_digest (tp := tpE E) (n := n) (hBE E) hn h
  refine lv_aload_n hx hb dL_law_1381 rfl (lv_at hl 1 rfl) ?_
  refine call_l (run_V (a := ea E 0) (As := []) (rest := []) ⟨hx, hb, hml, hown, hts⟩ (ctX8_digest l E σ _ hq) (cwV 0 hts gL_law_X8_digest rfl rfl rfl ⟨rfl, hdX8_digest⟩ ⟨Nat.le_of_ble_eq_true rfl, Nat.le_of_ble_eq_true rfl⟩) hK hN hg (recv_x (ci := 8) (C := RX8) (T := TX8) (N := 14) hg hK (by decide) rfl (by decide) rfl) rfl hl.1 rfl (cat_sum _ (by simp)) dL_law_1382 (show 39 + (sz σ - ez E) + 0 ≤ 600000 ∧ 19543 + 9 * (sz σ - ez E) + 0 ≤ 7302250 by have q1 := hg.1.2.2.2.2.2.2.2.2.1; unfold tpE at *; omega)) hg (fun r1 σ1 H locs hm2 hq hg => ?_)
  have ht : sz σ1 ≤ tpE E := Nat.le_trans hm2.2.2 ht
  refine W_narrowL hg hes hez hez0 ?_
  refine lv_aload_n hx hb dL_law_1385 rfl (lv_at hl 2 rfl) ?_
  refine call_l (run_V (a := ea E 21) (As := []) (rest := [.long (lI r1)]) ⟨hx, hb, hml, hown, hts⟩ (ctX9_digest l E σ1 _ hq) (cwV 0 hts gL_law_X9_digest rfl rfl rfl ⟨rfl, hdX9_digest⟩ ⟨Nat.le_of_ble_eq_true rfl, Nat.le_of_ble_eq_true rfl⟩) hK hN hg (recv_x (ci := 9) (C := RX9) (T := TX9) (N := 27) hg hK (by decide) rfl (by decide) rfl) rfl hl.1 rfl (cat_sum _ (by simp)) dL_law_1386 (show 39 + (sz σ1 - ez E) + 0 ≤ 600000 ∧ 19543 + 9 * (sz σ1 - ez E) + 0 ≤ 7302250 by have q1 := hg.1.2.2.2.2.2.2.2.2.1; unfold tpE at *; omega)) hg (fun r2 σ2 H locs hm2 hq hg => ?_)
  have ht : sz σ2 ≤ tpE E := Nat.le_trans hm2.2.2 ht
  refine W_narrowL hg hes hez hez0 ?_
  obtain ⟨rfl, hLP⟩ := hq
  refine l_same (tgt := 1395) hx hb dL_law_1389 dL_law_1390 (by decide) ?_
  exact kk σ2 H locs hg ht hLP
