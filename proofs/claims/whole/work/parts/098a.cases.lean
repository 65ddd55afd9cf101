set_option maxRecDepth 100000 in
set_option maxHeartbeats 4000000 in
theorem lc_put {p : Program} {l : Launch} {e : Env} {s : State} {m : MethodId} {below : List Frame} {meth : Method} {c : Code} {H : Heap} {locs : List Loc} {ls : Array Slot} {b L i n : Nat} {xs : Nat → Int32} {E : Ev} {σ : SS} (X : LX p s m meth c b L xs E) (hi : i + 5 ≤ L) (hn : n ≤ 1000) (hg : GS E σ s H locs) (ht : sz σ ≤ tpE E) (h : LPz (ez E) n σ) (hl : lv_has ls 4 (lvL E b i)) (kk : LK p l e s m below meth c b E n ls) : W p l e room_1 s m #[Value.ref b] below meth c H locs (39 + (sz σ - ez E)) (19543 + 9 * (sz σ - ez E)) (lw_Z below #[Value.ref b] s) (F0 m 188 ls []) := by
  obtain ⟨hx, hb, hr, hml, hown, hts, hX, hbl, hlocks, hL, hK, hN, hE0, hes, hez, hez0⟩ := id X
  have hq := lp_put (x1 := (xs (i + 1)).toInt) (x2 := (xs (i + 2)).toInt) (x3 := (xs (i + 3)).toInt) (tp := tpE E) (n := n) (hBE E) hn h
  refine lv_aload_n hx hb dL_law_188 rfl (lv_at hl 1 rfl) ?_
  refine l_arg (k := 1) hx hb hX hbl hE0 hg hL (by omega) hl dL_law_189 dL_law_190 dL_law_191 dL_law_192 dL_law_193 ?_
  refine l_arg (k := 2) hx hb hX hbl hE0 hg hL (by omega) hl dL_law_194 dL_law_195 dL_law_196 dL_law_197 dL_law_198 ?_
  refine l_arg (k := 3) hx hb hX hbl hE0 hg hL (by omega) hl dL_law_199 dL_law_200 dL_law_201 dL_law_202 dL_law_203 ?_
  refine call_i (run_V (a := ea E 0) (As := [.int (iI (xs (i + 1)).toInt), .int (iI (xs (i + 2)).toInt), .int (iI (xs (i + 3)).toInt)]) (rest := []) ⟨hx, hb, hml, hown, hts⟩ (ctX8_put l E (tpE E) (xs (i + 1)).toInt (xs (i + 2)).toInt (xs (i + 3)).toInt σ _ (iI_of _).2 (iI_of _).2 (iI_of _).2 ht hq) (cwV 3 hts gL_law_X8_put rfl rfl rfl ⟨rfl, hdX8_put⟩ ⟨Nat.le_of_ble_eq_true rfl, Nat.le_of_ble_eq_true rfl⟩) hK hN hg (recv_x (ci := 8) (C := RX8) (T := TX8) (N := 14) hg hK (by decide) rfl (by decide) rfl) rfl hl.1 rfl (cat_sum _ (by simp)) dL_law_204 (show 39 + (sz σ - ez E) + (tpE E - sz σ) ≤ 600000 ∧ 19543 + 9 * (sz σ - ez E) + 9 * (tpE E - sz σ) ≤ 7302250 by have q1 := hg.1.2.2.2.2.2.2.2.2.1; unfold tpE at *; omega)) hg (fun r1 σ1 H locs hz0 hm2 hq hg => ?_)
  have ht : sz σ1 ≤ tpE E := hm2.2.2
  refine W_narrowL hg hes hez hez0 ?_
  refine lv_aload_n hx hb dL_law_207 rfl (lv_at hl 2 rfl) ?_
  refine l_arg (k := 1) hx hb hX hbl hE0 hg hL (by omega) hl dL_law_208 dL_law_209 dL_law_210 dL_law_211 dL_law_212 ?_
  refine l_arg (k := 2) hx hb hX hbl hE0 hg hL (by omega) hl dL_law_213 dL_law_214 dL_law_215 dL_law_216 dL_law_217 ?_
  refine l_arg (k := 3) hx hb hX hbl hE0 hg hL (by omega) hl dL_law_218 dL_law_219 dL_law_220 dL_law_221 dL_law_222 ?_
  refine call_i (run_V (a := ea E 21) (As := [.int (iI (xs (i + 1)).toInt), .int (iI (xs (i + 2)).toInt), .int (iI (xs (i + 3)).toInt)]) (rest := [.int (iI r1)]) ⟨hx, hb, hml, hown, hts⟩ (ctX9_put l E (xs (i + 1)).toInt (xs (i + 2)).toInt (xs (i + 3)).toInt σ1 _ (iI_of _).2 (iI_of _).2 (iI_of _).2 hq) (cwV 3 hts gL_law_X9_put rfl rfl rfl ⟨rfl, hdX9_put⟩ ⟨Nat.le_of_ble_eq_true rfl, Nat.le_of_ble_eq_true rfl⟩) hK hN hg (recv_x (ci := 9) (C := RX9) (T := TX9) (N := 27) hg hK (by decide) rfl (by decide) rfl) rfl hl.1 rfl (cat_sum _ (by simp)) dL_law_223 (show 39 + (sz σ1 - ez E) + 0 ≤ 600000 ∧ 19543 + 9 * (sz σ1 - ez E) + 0 ≤ 7302250 by have q1 := hg.1.2.2.2.2.2.2.2.2.1; unfold tpE at *; omega)) hg (fun r2 σ2 H locs hz1 hm2 hq hg => ?_)
  have ht : sz σ2 ≤ tpE E := Nat.le_trans hm2.2.2 ht
  refine W_narrowL hg hes hez hez0 ?_
  obtain ⟨rfl, hLP⟩ := hq
  refine lv_icmp_eq (tgt := 1395) hx hb dL_law_226 (by decide) (fun _ => ?_) (fun q => absurd rfl q)
  exact kk σ2 H locs hg ht hLP
set_option maxRecDepth 100000 in
set_option maxHeartbeats 4000000 in
theorem lc_remove {p : Program} {l : Launch} {e : Env} {s : State} {m : MethodId} {below : List Frame} {meth : Method} {c : Code} {H : Heap} {locs : List Loc} {ls : Array Slot} {b L i n : Nat} {xs : Nat → Int32} {E : Ev} {σ : SS} (X : LX p s m meth c b L xs E) (hi : i + 5 ≤ L) (hn : n ≤ 1000) (hg : GS E σ s H locs) (ht : sz σ ≤ tpE E) (h : LPz (ez E) n σ) (hl : lv_has ls 4 (lvL E b i)) (kk : LK p l e s m below meth c b E n ls) : W p l e room_1 s m #[Value.ref b] below meth c H locs (39 + (sz σ - ez E)) (19543 + 9 * (sz σ - ez E)) (lw_Z below #[Value.ref b] s) (F0 m 231 ls []) := by
  obtain ⟨hx, hb, hr, hml, hown, hts, hX, hbl, hlocks, hL, hK, hN, hE0, hes, hez, hez0⟩ := id X
  have hq := lp_remove (x1 := (xs (i + 1)).toInt) (x2 := (xs (i + 2)).toInt) (tp := tpE E) (n := n) (hBE E) hn h
  refine lv_aload_n hx hb dL_law_231 rfl (lv_at hl 1 rfl) ?_
  refine l_arg (k := 1) hx hb hX hbl hE0 hg hL (by omega) hl dL_law_232 dL_law_233 dL_law_234 dL_law_235 dL_law_236 ?_
  refine l_arg (k := 2) hx hb hX hbl hE0 hg hL (by omega) hl dL_law_237 dL_law_238 dL_law_239 dL_law_240 dL_law_241 ?_
  refine call_i (run_V (a := ea E 0) (As := [.int (iI (xs (i + 1)).toInt), .int (iI (xs (i + 2)).toInt)]) (rest := []) ⟨hx, hb, hml, hown, hts⟩ (ctX8_remove l E (tpE E) (xs (i + 1)).toInt (xs (i + 2)).toInt σ _ (iI_of _).2 (iI_of _).2 ht hq) (cwV 2 hts gL_law_X8_remove rfl rfl rfl ⟨rfl, hdX8_remove⟩ ⟨Nat.le_of_ble_eq_true rfl, Nat.le_of_ble_eq_true rfl⟩) hK hN hg (recv_x (ci := 8) (C := RX8) (T := TX8) (N := 14) hg hK (by decide) rfl (by decide) rfl) rfl hl.1 rfl (cat_sum _ (by simp)) dL_law_242 (show 39 + (sz σ - ez E) + (tpE E - sz σ) ≤ 600000 ∧ 19543 + 9 * (sz σ - ez E) + 9 * (tpE E - sz σ) ≤ 7302250 by have q1 := hg.1.2.2.2.2.2.2.2.2.1; unfold tpE at *; omega)) hg (fun r1 σ1 H locs hz0 hm2 hq hg => ?_)
  have ht : sz σ1 ≤ tpE E := hm2.2.2
  refine W_narrowL hg hes hez hez0 ?_
  refine lv_aload_n hx hb dL_law_245 rfl (lv_at hl 2 rfl) ?_
  refine l_arg (k := 1) hx hb hX hbl hE0 hg hL (by omega) hl dL_law_246 dL_law_247 dL_law_248 dL_law_249 dL_law_250 ?_
  refine l_arg (k := 2) hx hb hX hbl hE0 hg hL (by omega) hl dL_law_251 dL_law_252 dL_law_253 dL_law_254 dL_law_255 ?_
  refine call_i (run_V (a := ea E 21) (As := [.int (iI (xs (i + 1)).toInt), .int (iI (xs (i + 2)).toInt)]) (rest := [.int (iI r1)]) ⟨hx, hb, hml, hown, hts⟩ (ctX9_remove l E (xs (i + 1)).toInt (xs (i + 2)).toInt σ1 _ (iI_of _).2 (iI_of _).2 hq) (cwV 2 hts gL_law_X9_remove rfl rfl rfl ⟨rfl, hdX9_remove⟩ ⟨Nat.le_of_ble_eq_true rfl, Nat.le_of_ble_eq_true rfl⟩) hK hN hg (recv_x (ci := 9) (C := RX9) (T := TX9) (N := 27) hg hK (by decide) rfl (by decide) rfl) rfl hl.1 rfl (cat_sum _ (by simp)) dL_law_256 (show 39 + (sz σ1 - ez E) + 0 ≤ 600000 ∧ 19543 + 9 * (sz σ1 - ez E) + 0 ≤ 7302250 by have q1 := hg.1.2.2.2.2.2.2.2.2.1; unfold tpE at *; omega)) hg (fun r2 σ2 H locs hz1 hm2 hq hg => ?_)
  have ht : sz σ2 ≤ tpE E := Nat.le_trans hm2.2.2 ht
  refine W_narrowL hg hes hez hez0 ?_
  obtain ⟨rfl, hLP⟩ := hq
  refine lv_icmp_eq (tgt := 1395) hx hb dL_law_259 (by decide) (fun _ => ?_) (fun q => absurd rfl q)
  exact kk σ2 H locs hg ht hLP
set_option maxRecDepth 100000 in
set_option maxHeartbeats 4000000 in
theorem lc_get {p : Program} {l : Launch} {e : Env} {s : State} {m : MethodId} {below : List Frame} {meth : Method} {c : Code} {H : Heap} {locs : List Loc} {ls : Array Slot} {b L i n : Nat} {xs : Nat → Int32} {E : Ev} {σ : SS} (X : LX p s m meth c b L xs E) (hi : i + 5 ≤ L) (hn : n ≤ 1000) (hg : GS E σ s H locs) (ht : sz σ ≤ tpE E) (h : LPz (ez E) n σ) (hl : lv_has ls 4 (lvL E b i)) (kk : LK p l e s m below meth c b E n ls) : W p l e room_1 s m #[Value.ref b] below meth c H locs (39 + (sz σ - ez E)) (19543 + 9 * (sz σ - ez E)) (lw_Z below #[Value.ref b] s) (F0 m 264 ls []) := by
  obtain ⟨hx, hb, hr, hml, hown, hts, hX, hbl, hlocks, hL, hK, hN, hE0, hes, hez, hez0⟩ := id X
  have hq := lp_get (x1 := (xs (i + 1)).toInt) (x2 := (xs (i + 2)).toInt) (tp := tpE E) (n := n) (hBE E) hn h
  refine lv_aload_n hx hb dL_law_264 rfl (lv_at hl 1 rfl) ?_
  refine l_arg (k := 1) hx hb hX hbl hE0 hg hL (by omega) hl dL_law_265 dL_law_266 dL_law_267 dL_law_268 dL_law_269 ?_
  refine l_arg (k := 2) hx hb hX hbl hE0 hg hL (by omega) hl dL_law_270 dL_law_271 dL_law_272 dL_law_273 dL_law_274 ?_
  refine call_i (run_V (a := ea E 0) (As := [.int (iI (xs (i + 1)).toInt), .int (iI (xs (i + 2)).toInt)]) (rest := []) ⟨hx, hb, hml, hown, hts⟩ (ctX8_get l E (xs (i + 1)).toInt (xs (i + 2)).toInt σ _ (iI_of _).2 (iI_of _).2 hq) (cwV 2 hts gL_law_X8_get rfl rfl rfl ⟨rfl, hdX8_get⟩ ⟨Nat.le_of_ble_eq_true rfl, Nat.le_of_ble_eq_true rfl⟩) hK hN hg (recv_x (ci := 8) (C := RX8) (T := TX8) (N := 14) hg hK (by decide) rfl (by decide) rfl) rfl hl.1 rfl (cat_sum _ (by simp)) dL_law_275 (show 39 + (sz σ - ez E) + 0 ≤ 600000 ∧ 19543 + 9 * (sz σ - ez E) + 0 ≤ 7302250 by have q1 := hg.1.2.2.2.2.2.2.2.2.1; unfold tpE at *; omega)) hg (fun r1 σ1 H locs hz0 hm2 hq hg => ?_)
  have ht : sz σ1 ≤ tpE E := Nat.le_trans hm2.2.2 ht
  refine W_narrowL hg hes hez hez0 ?_
  refine lv_aload_n hx hb dL_law_278 rfl (lv_at hl 2 rfl) ?_
  refine l_arg (k := 1) hx hb hX hbl hE0 hg hL (by omega) hl dL_law_279 dL_law_280 dL_law_281 dL_law_282 dL_law_283 ?_
  refine l_arg (k := 2) hx hb hX hbl hE0 hg hL (by omega) hl dL_law_284 dL_law_285 dL_law_286 dL_law_287 dL_law_288 ?_
  refine call_i (run_V (a := ea E 21) (As := [.int (iI (xs (i + 1)).toInt), .int (iI (xs (i + 2)).toInt)]) (rest := [.int (iI r1)]) ⟨hx, hb, hml, hown, hts⟩ (ctX9_get l E (xs (i + 1)).toInt (xs (i + 2)).toInt σ1 _ (iI_of _).2 (iI_of _).2 hq) (cwV 2 hts gL_law_X9_get rfl rfl rfl ⟨rfl, hdX9_get⟩ ⟨Nat.le_of_ble_eq_true rfl, Nat.le_of_ble_eq_true rfl⟩) hK hN hg (recv_x (ci := 9) (C := RX9) (T := TX9) (N := 27) hg hK (by decide) rfl (by decide) rfl) rfl hl.1 rfl (cat_sum _ (by simp)) dL_law_289 (show 39 + (sz σ1 - ez E) + 0 ≤ 600000 ∧ 19543 + 9 * (sz σ1 - ez E) + 0 ≤ 7302250 by have q1 := hg.1.2.2.2.2.2.2.2.2.1; unfold tpE at *; omega)) hg (fun r2 σ2 H locs hz1 hm2 hq hg => ?_)
  have ht : sz σ2 ≤ tpE E := Nat.le_trans hm2.2.2 ht
  refine W_narrowL hg hes hez hez0 ?_
  obtain ⟨rfl, hLP⟩ := hq
  refine lv_icmp_eq (tgt := 1395) hx hb dL_law_292 (by decide) (fun _ => ?_) (fun q => absurd rfl q)
  exact kk σ2 H locs hg ht hLP
set_option maxRecDepth 100000 in
set_option maxHeartbeats 4000000 in
theorem lc_size {p : Program} {l : Launch} {e : Env} {s : State} {m : MethodId} {below : List Frame} {meth : Method} {c : Code} {H : Heap} {locs : List Loc} {ls : Array Slot} {b L i n : Nat} {xs : Nat → Int32} {E : Ev} {σ : SS} (X : LX p s m meth c b L xs E) (hi : i + 5 ≤ L) (hn : n ≤ 1000) (hg : GS E σ s H locs) (ht : sz σ ≤ tpE E) (h : LPz (ez E) n σ) (hl : lv_has ls 4 (lvL E b i)) (kk : LK p l e s m below meth c b E n ls) : W p l e room_1 s m #[Value.ref b] below meth c H locs (39 + (sz σ - ez E)) (19543 + 9 * (sz σ - ez E)) (lw_Z below #[Value.ref b] s) (F0 m 297 ls []) := by
  obtain ⟨hx, hb, hr, hml, hown, hts, hX, hbl, hlocks, hL, hK, hN, hE0, hes, hez, hez0⟩ := id X
  have hq := lp_size (x1 := (xs (i + 1)).toInt) (tp := tpE E) (n := n) (hBE E) hn h
  refine lv_aload_n hx hb dL_law_297 rfl (lv_at hl 1 rfl) ?_
  refine l_arg (k := 1) hx hb hX hbl hE0 hg hL (by omega) hl dL_law_298 dL_law_299 dL_law_300 dL_law_301 dL_law_302 ?_
  refine call_i (run_V (a := ea E 0) (As := [.int (iI (xs (i + 1)).toInt)]) (rest := []) ⟨hx, hb, hml, hown, hts⟩ (ctX8_size l E (xs (i + 1)).toInt σ _ (iI_of _).2 hq) (cwV 1 hts gL_law_X8_size rfl rfl rfl ⟨rfl, hdX8_size⟩ ⟨Nat.le_of_ble_eq_true rfl, Nat.le_of_ble_eq_true rfl⟩) hK hN hg (recv_x (ci := 8) (C := RX8) (T := TX8) (N := 14) hg hK (by decide) rfl (by decide) rfl) rfl hl.1 rfl (cat_sum _ (by simp)) dL_law_303 (show 39 + (sz σ - ez E) + 0 ≤ 600000 ∧ 19543 + 9 * (sz σ - ez E) + 0 ≤ 7302250 by have q1 := hg.1.2.2.2.2.2.2.2.2.1; unfold tpE at *; omega)) hg (fun r1 σ1 H locs hz0 hm2 hq hg => ?_)
  have ht : sz σ1 ≤ tpE E := Nat.le_trans hm2.2.2 ht
  refine W_narrowL hg hes hez hez0 ?_
  refine lv_aload_n hx hb dL_law_306 rfl (lv_at hl 2 rfl) ?_
  refine l_arg (k := 1) hx hb hX hbl hE0 hg hL (by omega) hl dL_law_307 dL_law_308 dL_law_309 dL_law_310 dL_law_311 ?_
  refine call_i (run_V (a := ea E 21) (As := [.int (iI (xs (i + 1)).toInt)]) (rest := [.int (iI r1)]) ⟨hx, hb, hml, hown, hts⟩ (ctX9_size l E (xs (i + 1)).toInt σ1 _ (iI_of _).2 hq) (cwV 1 hts gL_law_X9_size rfl rfl rfl ⟨rfl, hdX9_size⟩ ⟨Nat.le_of_ble_eq_true rfl, Nat.le_of_ble_eq_true rfl⟩) hK hN hg (recv_x (ci := 9) (C := RX9) (T := TX9) (N := 27) hg hK (by decide) rfl (by decide) rfl) rfl hl.1 rfl (cat_sum _ (by simp)) dL_law_312 (show 39 + (sz σ1 - ez E) + 0 ≤ 600000 ∧ 19543 + 9 * (sz σ1 - ez E) + 0 ≤ 7302250 by have q1 := hg.1.2.2.2.2.2.2.2.2.1; unfold tpE at *; omega)) hg (fun r2 σ2 H locs hz1 hm2 hq hg => ?_)
  have ht : sz σ2 ≤ tpE E := Nat.le_trans hm2.2.2 ht
  refine W_narrowL hg hes hez hez0 ?_
  obtain ⟨rfl, hLP⟩ := hq
  refine lv_icmp_eq (tgt := 1395) hx hb dL_law_315 (by decide) (fun _ => ?_) (fun q => absurd rfl q)
  exact kk σ2 H locs hg ht hLP
set_option maxRecDepth 100000 in
set_option maxHeartbeats 4000000 in
theorem lc_rank {p : Program} {l : Launch} {e : Env} {s : State} {m : MethodId} {below : List Frame} {meth : Method} {c : Code} {H : Heap} {locs : List Loc} {ls : Array Slot} {b L i n : Nat} {xs : Nat → Int32} {E : Ev} {σ : SS} (X : LX p s m meth c b L xs E) (hi : i + 5 ≤ L) (hn : n ≤ 1000) (hg : GS E σ s H locs) (ht : sz σ ≤ tpE E) (h : LPz (ez E) n σ) (hl : lv_has ls 4 (lvL E b i)) (kk : LK p l e s m below meth c b E n ls) : W p l e room_1 s m #[Value.ref b] below meth c H locs (39 + (sz σ - ez E)) (19543 + 9 * (sz σ - ez E)) (lw_Z below #[Value.ref b] s) (F0 m 320 ls []) := by
  obtain ⟨hx, hb, hr, hml, hown, hts, hX, hbl, hlocks, hL, hK, hN, hE0, hes, hez, hez0⟩ := id X
  have hq := lp_rank (x1 := (xs (i + 1)).toInt) (x2 := (xs (i + 2)).toInt) (tp := tpE E) (n := n) (hBE E) hn h
  refine lv_aload_n hx hb dL_law_320 rfl (lv_at hl 1 rfl) ?_
  refine l_arg (k := 1) hx hb hX hbl hE0 hg hL (by omega) hl dL_law_321 dL_law_322 dL_law_323 dL_law_324 dL_law_325 ?_
  refine l_arg (k := 2) hx hb hX hbl hE0 hg hL (by omega) hl dL_law_326 dL_law_327 dL_law_328 dL_law_329 dL_law_330 ?_
  refine call_i (run_V (a := ea E 0) (As := [.int (iI (xs (i + 1)).toInt), .int (iI (xs (i + 2)).toInt)]) (rest := []) ⟨hx, hb, hml, hown, hts⟩ (ctX8_rank l E (xs (i + 1)).toInt (xs (i + 2)).toInt σ _ (iI_of _).2 (iI_of _).2 hq) (cwV 2 hts gL_law_X8_rank rfl rfl rfl ⟨rfl, hdX8_rank⟩ ⟨Nat.le_of_ble_eq_true rfl, Nat.le_of_ble_eq_true rfl⟩) hK hN hg (recv_x (ci := 8) (C := RX8) (T := TX8) (N := 14) hg hK (by decide) rfl (by decide) rfl) rfl hl.1 rfl (cat_sum _ (by simp)) dL_law_331 (show 39 + (sz σ - ez E) + 0 ≤ 600000 ∧ 19543 + 9 * (sz σ - ez E) + 0 ≤ 7302250 by have q1 := hg.1.2.2.2.2.2.2.2.2.1; unfold tpE at *; omega)) hg (fun r1 σ1 H locs hz0 hm2 hq hg => ?_)
  have ht : sz σ1 ≤ tpE E := Nat.le_trans hm2.2.2 ht
  refine W_narrowL hg hes hez hez0 ?_
  refine lv_aload_n hx hb dL_law_334 rfl (lv_at hl 2 rfl) ?_
  refine l_arg (k := 1) hx hb hX hbl hE0 hg hL (by omega) hl dL_law_335 dL_law_336 dL_law_337 dL_law_338 dL_law_339 ?_
  refine l_arg (k := 2) hx hb hX hbl hE0 hg hL (by omega) hl dL_law_340 dL_law_341 dL_law_342 dL_law_343 dL_law_344 ?_
  refine call_i (run_V (a := ea E 21) (As := [.int (iI (xs (i + 1)).toInt), .int (iI (xs (i + 2)).toInt)]) (rest := [.int (iI r1)]) ⟨hx, hb, hml, hown, hts⟩ (ctX9_rank l E (xs (i + 1)).toInt (xs (i + 2)).toInt σ1 _ (iI_of _).2 (iI_of _).2 hq) (cwV 2 hts gL_law_X9_rank rfl rfl rfl ⟨rfl, hdX9_rank⟩ ⟨Nat.le_of_ble_eq_true rfl, Nat.le_of_ble_eq_true rfl⟩) hK hN hg (recv_x (ci := 9) (C := RX9) (T := TX9) (N := 27) hg hK (by decide) rfl (by decide) rfl) rfl hl.1 rfl (cat_sum _ (by simp)) dL_law_345 (show 39 + (sz σ1 - ez E) + 0 ≤ 600000 ∧ 19543 + 9 * (sz σ1 - ez E) + 0 ≤ 7302250 by have q1 := hg.1.2.2.2.2.2.2.2.2.1; unfold tpE at *; omega)) hg (fun r2 σ2 H locs hz1 hm2 hq hg => ?_)
  have ht : sz σ2 ≤ tpE E := Nat.le_trans hm2.2.2 ht
  refine W_narrowL hg hes hez hez0 ?_
  obtain ⟨rfl, hLP⟩ := hq
  refine lv_icmp_eq (tgt := 1395) hx hb dL_law_348 (by decide) (fun _ => ?_) (fun q => absurd rfl q)
  exact kk σ2 H locs hg ht hLP
set_option maxRecDepth 100000 in
set_option maxHeartbeats 4000000 in
theorem lc_nth {p : Program} {l : Launch} {e : Env} {s : State} {m : MethodId} {below : List Frame} {meth : Method} {c : Code} {H : Heap} {locs : List Loc} {ls : Array Slot} {b L i n : Nat} {xs : Nat → Int32} {E : Ev} {σ : SS} (X : LX p s m meth c b L xs E) (hi : i + 5 ≤ L) (hn : n ≤ 1000) (hg : GS E σ s H locs) (ht : sz σ ≤ tpE E) (h : LPz (ez E) n σ) (hl : lv_has ls 4 (lvL E b i)) (kk : LK p l e s m below meth c b E n ls) : W p l e room_1 s m #[Value.ref b] below meth c H locs (39 + (sz σ - ez E)) (19543 + 9 * (sz σ - ez E)) (lw_Z below #[Value.ref b] s) (F0 m 353 ls []) := by
  obtain ⟨hx, hb, hr, hml, hown, hts, hX, hbl, hlocks, hL, hK, hN, hE0, hes, hez, hez0⟩ := id X
  have hq := lp_nth (x1 := (xs (i + 1)).toInt) (x2 := (xs (i + 2)).toInt) (tp := tpE E) (n := n) (hBE E) hn (iI_of _).2 h
  refine lv_aload_n hx hb dL_law_353 rfl (lv_at hl 1 rfl) ?_
  refine l_arg (k := 1) hx hb hX hbl hE0 hg hL (by omega) hl dL_law_354 dL_law_355 dL_law_356 dL_law_357 dL_law_358 ?_
  refine l_arg (k := 2) hx hb hX hbl hE0 hg hL (by omega) hl dL_law_359 dL_law_360 dL_law_361 dL_law_362 dL_law_363 ?_
  refine call_i (run_V (a := ea E 0) (As := [.int (iI (xs (i + 1)).toInt), .int (iI (xs (i + 2)).toInt)]) (rest := []) ⟨hx, hb, hml, hown, hts⟩ (ctX8_nth l E (xs (i + 1)).toInt (xs (i + 2)).toInt σ _ (iI_of _).2 (iI_of _).2 hq) (cwV 2 hts gL_law_X8_nth rfl rfl rfl ⟨rfl, hdX8_nth⟩ ⟨Nat.le_of_ble_eq_true rfl, Nat.le_of_ble_eq_true rfl⟩) hK hN hg (recv_x (ci := 8) (C := RX8) (T := TX8) (N := 14) hg hK (by decide) rfl (by decide) rfl) rfl hl.1 rfl (cat_sum _ (by simp)) dL_law_364 (show 39 + (sz σ - ez E) + 0 ≤ 600000 ∧ 19543 + 9 * (sz σ - ez E) + 0 ≤ 7302250 by have q1 := hg.1.2.2.2.2.2.2.2.2.1; unfold tpE at *; omega)) hg (fun r1 σ1 H locs hz0 hm2 hq hg => ?_)
  have ht : sz σ1 ≤ tpE E := Nat.le_trans hm2.2.2 ht
  refine W_narrowL hg hes hez hez0 ?_
  refine lv_aload_n hx hb dL_law_367 rfl (lv_at hl 2 rfl) ?_
  refine l_arg (k := 1) hx hb hX hbl hE0 hg hL (by omega) hl dL_law_368 dL_law_369 dL_law_370 dL_law_371 dL_law_372 ?_
  refine l_arg (k := 2) hx hb hX hbl hE0 hg hL (by omega) hl dL_law_373 dL_law_374 dL_law_375 dL_law_376 dL_law_377 ?_
  refine call_i (run_V (a := ea E 21) (As := [.int (iI (xs (i + 1)).toInt), .int (iI (xs (i + 2)).toInt)]) (rest := [.int (iI r1)]) ⟨hx, hb, hml, hown, hts⟩ (ctX9_nth l E (xs (i + 1)).toInt (xs (i + 2)).toInt σ1 _ (iI_of _).2 (iI_of _).2 hq) (cwV 2 hts gL_law_X9_nth rfl rfl rfl ⟨rfl, hdX9_nth⟩ ⟨Nat.le_of_ble_eq_true rfl, Nat.le_of_ble_eq_true rfl⟩) hK hN hg (recv_x (ci := 9) (C := RX9) (T := TX9) (N := 27) hg hK (by decide) rfl (by decide) rfl) rfl hl.1 rfl (cat_sum _ (by simp)) dL_law_378 (show 39 + (sz σ1 - ez E) + 0 ≤ 600000 ∧ 19543 + 9 * (sz σ1 - ez E) + 0 ≤ 7302250 by have q1 := hg.1.2.2.2.2.2.2.2.2.1; unfold tpE at *; omega)) hg (fun r2 σ2 H locs hz1 hm2 hq hg => ?_)
  have ht : sz σ2 ≤ tpE E := Nat.le_trans hm2.2.2 ht
  refine W_narrowL hg hes hez hez0 ?_
  obtain ⟨rfl, hLP⟩ := hq
  refine lv_icmp_eq (tgt := 1395) hx hb dL_law_381 (by decide) (fun _ => ?_) (fun q => absurd rfl q)
  exact kk σ2 H locs hg ht hLP
set_option maxRecDepth 100000 in
set_option maxHeartbeats 4000000 in
theorem lc_near {p : Program} {l : Launch} {e : Env} {s : State} {m : MethodId} {below : List Frame} {meth : Method} {c : Code} {H : Heap} {locs : List Loc} {ls : Array Slot} {b L i n : Nat} {xs : Nat → Int32} {E : Ev} {σ : SS} (X : LX p s m meth c b L xs E) (hi : i + 5 ≤ L) (hn : n ≤ 1000) (hg : GS E σ s H locs) (ht : sz σ ≤ tpE E) (h : LPz (ez E) n σ) (hl : lv_has ls 4 (lvL E b i)) (kk : LK p l e s m below meth c b E n ls) : W p l e room_1 s m #[Value.ref b] below meth c H locs (39 + (sz σ - ez E)) (19543 + 9 * (sz σ - ez E)) (lw_Z below #[Value.ref b] s) (F0 m 386 ls []) := by
  obtain ⟨hx, hb, hr, hml, hown, hts, hX, hbl, hlocks, hL, hK, hN, hE0, hes, hez, hez0⟩ := id X
  have hq := lp_near (x1 := (xs (i + 1)).toInt) (x2 := (xs (i + 2)).toInt) (x3 := (xs (i + 3)).toInt) (tp := tpE E) (n := n) (hBE E) hn h
  refine lv_aload_n hx hb dL_law_386 rfl (lv_at hl 1 rfl) ?_
  refine l_arg (k := 1) hx hb hX hbl hE0 hg hL (by omega) hl dL_law_387 dL_law_388 dL_law_389 dL_law_390 dL_law_391 ?_
  refine l_arg (k := 2) hx hb hX hbl hE0 hg hL (by omega) hl dL_law_392 dL_law_393 dL_law_394 dL_law_395 dL_law_396 ?_
  refine l_arg (k := 3) hx hb hX hbl hE0 hg hL (by omega) hl dL_law_397 dL_law_398 dL_law_399 dL_law_400 dL_law_401 ?_
  refine call_i (run_V (a := ea E 0) (As := [.int (iI (xs (i + 1)).toInt), .int (iI (xs (i + 2)).toInt), .int (iI (xs (i + 3)).toInt)]) (rest := []) ⟨hx, hb, hml, hown, hts⟩ (ctX8_near l E (xs (i + 1)).toInt (xs (i + 2)).toInt (xs (i + 3)).toInt σ _ (iI_of _).2 (iI_of _).2 (iI_of _).2 hq) (cwV 3 hts gL_law_X8_near rfl rfl rfl ⟨rfl, hdX8_near⟩ ⟨Nat.le_of_ble_eq_true rfl, Nat.le_of_ble_eq_true rfl⟩) hK hN hg (recv_x (ci := 8) (C := RX8) (T := TX8) (N := 14) hg hK (by decide) rfl (by decide) rfl) rfl hl.1 rfl (cat_sum _ (by simp)) dL_law_402 (show 39 + (sz σ - ez E) + 0 ≤ 600000 ∧ 19543 + 9 * (sz σ - ez E) + 0 ≤ 7302250 by have q1 := hg.1.2.2.2.2.2.2.2.2.1; unfold tpE at *; omega)) hg (fun r1 σ1 H locs hz0 hm2 hq hg => ?_)
  have ht : sz σ1 ≤ tpE E := Nat.le_trans hm2.2.2 ht
  refine W_narrowL hg hes hez hez0 ?_
  refine lv_aload_n hx hb dL_law_405 rfl (lv_at hl 2 rfl) ?_
  refine l_arg (k := 1) hx hb hX hbl hE0 hg hL (by omega) hl dL_law_406 dL_law_407 dL_law_408 dL_law_409 dL_law_410 ?_
  refine l_arg (k := 2) hx hb hX hbl hE0 hg hL (by omega) hl dL_law_411 dL_law_412 dL_law_413 dL_law_414 dL_law_415 ?_
  refine l_arg (k := 3) hx hb hX hbl hE0 hg hL (by omega) hl dL_law_416 dL_law_417 dL_law_418 dL_law_419 dL_law_420 ?_
  refine call_i (run_V (a := ea E 21) (As := [.int (iI (xs (i + 1)).toInt), .int (iI (xs (i + 2)).toInt), .int (iI (xs (i + 3)).toInt)]) (rest := [.int (iI r1)]) ⟨hx, hb, hml, hown, hts⟩ (ctX9_near l E (xs (i + 1)).toInt (xs (i + 2)).toInt (xs (i + 3)).toInt σ1 _ (iI_of _).2 (iI_of _).2 (iI_of _).2 hq) (cwV 3 hts gL_law_X9_near rfl rfl rfl ⟨rfl, hdX9_near⟩ ⟨Nat.le_of_ble_eq_true rfl, Nat.le_of_ble_eq_true rfl⟩) hK hN hg (recv_x (ci := 9) (C := RX9) (T := TX9) (N := 27) hg hK (by decide) rfl (by decide) rfl) rfl hl.1 rfl (cat_sum _ (by simp)) dL_law_421 (show 39 + (sz σ1 - ez E) + 0 ≤ 600000 ∧ 19543 + 9 * (sz σ1 - ez E) + 0 ≤ 7302250 by have q1 := hg.1.2.2.2.2.2.2.2.2.1; unfold tpE at *; omega)) hg (fun r2 σ2 H locs hz1 hm2 hq hg => ?_)
  have ht : sz σ2 ≤ tpE E := Nat.le_trans hm2.2.2 ht
  refine W_narrowL hg hes hez hez0 ?_
  obtain ⟨rfl, hLP⟩ := hq
  refine lv_icmp_eq (tgt := 1395) hx hb dL_law_424 (by decide) (fun _ => ?_) (fun q => absurd rfl q)
  exact kk σ2 H locs hg ht hLP
set_option maxRecDepth 100000 in
set_option maxHeartbeats 4000000 in
theorem lc_within {p : Program} {l : Launch} {e : Env} {s : State} {m : MethodId} {below : List Frame} {meth : Method} {c : Code} {H : Heap} {locs : List Loc} {ls : Array Slot} {b L i n : Nat} {xs : Nat → Int32} {E : Ev} {σ : SS} (X : LX p s m meth c b L xs E) (hi : i + 5 ≤ L) (hn : n ≤ 1000) (hg : GS E σ s H locs) (ht : sz σ ≤ tpE E) (h : LPz (ez E) n σ) (hl : lv_has ls 4 (lvL E b i)) (kk : LK p l e s m below meth c b E n ls) : W p l e room_1 s m #[Value.ref b] below meth c H locs (39 + (sz σ - ez E)) (19543 + 9 * (sz σ - ez E)) (lw_Z below #[Value.ref b] s) (F0 m 429 ls []) := by
  obtain ⟨hx, hb, hr, hml, hown, hts, hX, hbl, hlocks, hL, hK, hN, hE0, hes, hez, hez0⟩ := id X
  have hq := lp_within (x1 := (xs (i + 1)).toInt) (x2 := (xs (i + 2)).toInt) (x3 := (xs (i + 3)).toInt) (tp := tpE E) (n := n) (hBE E) hn h
  refine lv_aload_n hx hb dL_law_429 rfl (lv_at hl 1 rfl) ?_
  refine l_arg (k := 1) hx hb hX hbl hE0 hg hL (by omega) hl dL_law_430 dL_law_431 dL_law_432 dL_law_433 dL_law_434 ?_
  refine l_arg (k := 2) hx hb hX hbl hE0 hg hL (by omega) hl dL_law_435 dL_law_436 dL_law_437 dL_law_438 dL_law_439 ?_
  refine l_arg (k := 3) hx hb hX hbl hE0 hg hL (by omega) hl dL_law_440 dL_law_441 dL_law_442 dL_law_443 dL_law_444 ?_
  refine call_i (run_V (a := ea E 0) (As := [.int (iI (xs (i + 1)).toInt), .int (iI (xs (i + 2)).toInt), .int (iI (xs (i + 3)).toInt)]) (rest := []) ⟨hx, hb, hml, hown, hts⟩ (ctX8_within l E (xs (i + 1)).toInt (xs (i + 2)).toInt (xs (i + 3)).toInt σ _ (iI_of _).2 (iI_of _).2 (iI_of _).2 hq) (cwV 3 hts gL_law_X8_within rfl rfl rfl ⟨rfl, hdX8_within⟩ ⟨Nat.le_of_ble_eq_true rfl, Nat.le_of_ble_eq_true rfl⟩) hK hN hg (recv_x (ci := 8) (C := RX8) (T := TX8) (N := 14) hg hK (by decide) rfl (by decide) rfl) rfl hl.1 rfl (cat_sum _ (by simp)) dL_law_445 (show 39 + (sz σ - ez E) + 0 ≤ 600000 ∧ 19543 + 9 * (sz σ - ez E) + 0 ≤ 7302250 by have q1 := hg.1.2.2.2.2.2.2.2.2.1; unfold tpE at *; omega)) hg (fun r1 σ1 H locs hz0 hm2 hq hg => ?_)
  have ht : sz σ1 ≤ tpE E := Nat.le_trans hm2.2.2 ht
  refine W_narrowL hg hes hez hez0 ?_
  refine lv_aload_n hx hb dL_law_448 rfl (lv_at hl 2 rfl) ?_
  refine l_arg (k := 1) hx hb hX hbl hE0 hg hL (by omega) hl dL_law_449 dL_law_450 dL_law_451 dL_law_452 dL_law_453 ?_
  refine l_arg (k := 2) hx hb hX hbl hE0 hg hL (by omega) hl dL_law_454 dL_law_455 dL_law_456 dL_law_457 dL_law_458 ?_
  refine l_arg (k := 3) hx hb hX hbl hE0 hg hL (by omega) hl dL_law_459 dL_law_460 dL_law_461 dL_law_462 dL_law_463 ?_
  refine call_i (run_V (a := ea E 21) (As := [.int (iI (xs (i + 1)).toInt), .int (iI (xs (i + 2)).toInt), .int (iI (xs (i + 3)).toInt)]) (rest := [.int (iI r1)]) ⟨hx, hb, hml, hown, hts⟩ (ctX9_within l E (xs (i + 1)).toInt (xs (i + 2)).toInt (xs (i + 3)).toInt σ1 _ (iI_of _).2 (iI_of _).2 (iI_of _).2 hq) (cwV 3 hts gL_law_X9_within rfl rfl rfl ⟨rfl, hdX9_within⟩ ⟨Nat.le_of_ble_eq_true rfl, Nat.le_of_ble_eq_true rfl⟩) hK hN hg (recv_x (ci := 9) (C := RX9) (T := TX9) (N := 27) hg hK (by decide) rfl (by decide) rfl) rfl hl.1 rfl (cat_sum _ (by simp)) dL_law_464 (show 39 + (sz σ1 - ez E) + 0 ≤ 600000 ∧ 19543 + 9 * (sz σ1 - ez E) + 0 ≤ 7302250 by have q1 := hg.1.2.2.2.2.2.2.2.2.1; unfold tpE at *; omega)) hg (fun r2 σ2 H locs hz1 hm2 hq hg => ?_)
  have ht : sz σ2 ≤ tpE E := Nat.le_trans hm2.2.2 ht
  refine W_narrowL hg hes hez hez0 ?_
  obtain ⟨rfl, hLP⟩ := hq
  refine lv_icmp_eq (tgt := 1395) hx hb dL_law_467 (by decide) (fun _ => ?_) (fun q => absurd rfl q)
  exact kk σ2 H locs hg ht hLP
set_option maxRecDepth 100000 in
set_option maxHeartbeats 4000000 in
theorem lc_sum {p : Program} {l : Launch} {e : Env} {s : State} {m : MethodId} {below : List Frame} {meth : Method} {c : Code} {H : Heap} {locs : List Loc} {ls : Array Slot} {b L i n : Nat} {xs : Nat → Int32} {E : Ev} {σ : SS} (X : LX p s m meth c b L xs E) (hi : i + 5 ≤ L) (hn : n ≤ 1000) (hg : GS E σ s H locs) (ht : sz σ ≤ tpE E) (h : LPz (ez E) n σ) (hl : lv_has ls 4 (lvL E b i)) (kk : LK p l e s m below meth c b E n ls) : W p l e room_1 s m #[Value.ref b] below meth c H locs (39 + (sz σ - ez E)) (19543 + 9 * (sz σ - ez E)) (lw_Z below #[Value.ref b] s) (F0 m 472 ls []) := by
  obtain ⟨hx, hb, hr, hml, hown, hts, hX, hbl, hlocks, hL, hK, hN, hE0, hes, hez, hez0⟩ := id X
  have hq := lp_sum (x1 := (xs (i + 1)).toInt) (x2 := (xs (i + 2)).toInt) (x3 := (xs (i + 3)).toInt) (tp := tpE E) (n := n) (hBE E) hn h
  refine lv_aload_n hx hb dL_law_472 rfl (lv_at hl 1 rfl) ?_
  refine l_arg (k := 1) hx hb hX hbl hE0 hg hL (by omega) hl dL_law_473 dL_law_474 dL_law_475 dL_law_476 dL_law_477 ?_
  refine l_arg (k := 2) hx hb hX hbl hE0 hg hL (by omega) hl dL_law_478 dL_law_479 dL_law_480 dL_law_481 dL_law_482 ?_
  refine l_arg (k := 3) hx hb hX hbl hE0 hg hL (by omega) hl dL_law_483 dL_law_484 dL_law_485 dL_law_486 dL_law_487 ?_
  refine call_l (run_V (a := ea E 0) (As := [.int (iI (xs (i + 1)).toInt), .int (iI (xs (i + 2)).toInt), .int (iI (xs (i + 3)).toInt)]) (rest := []) ⟨hx, hb, hml, hown, hts⟩ (ctX8_sum l E (xs (i + 1)).toInt (xs (i + 2)).toInt (xs (i + 3)).toInt σ _ (iI_of _).2 (iI_of _).2 (iI_of _).2 hq) (cwV 3 hts gL_law_X8_sum rfl rfl rfl ⟨rfl, hdX8_sum⟩ ⟨Nat.le_of_ble_eq_true rfl, Nat.le_of_ble_eq_true rfl⟩) hK hN hg (recv_x (ci := 8) (C := RX8) (T := TX8) (N := 14) hg hK (by decide) rfl (by decide) rfl) rfl hl.1 rfl (cat_sum _ (by simp)) dL_law_488 (show 39 + (sz σ - ez E) + 0 ≤ 600000 ∧ 19543 + 9 * (sz σ - ez E) + 0 ≤ 7302250 by have q1 := hg.1.2.2.2.2.2.2.2.2.1; unfold tpE at *; omega)) hg (fun r1 σ1 H locs hm2 hq hg => ?_)
  have ht : sz σ1 ≤ tpE E := Nat.le_trans hm2.2.2 ht
  refine W_narrowL hg hes hez hez0 ?_
  refine lv_aload_n hx hb dL_law_491 rfl (lv_at hl 2 rfl) ?_
  refine l_arg (k := 1) hx hb hX hbl hE0 hg hL (by omega) hl dL_law_492 dL_law_493 dL_law_494 dL_law_495 dL_law_496 ?_
  refine l_arg (k := 2) hx hb hX hbl hE0 hg hL (by omega) hl dL_law_497 dL_law_498 dL_law_499 dL_law_500 dL_law_501 ?_
  refine l_arg (k := 3) hx hb hX hbl hE0 hg hL (by omega) hl dL_law_502 dL_law_503 dL_law_504 dL_law_505 dL_law_506 ?_
  refine call_l (run_V (a := ea E 21) (As := [.int (iI (xs (i + 1)).toInt), .int (iI (xs (i + 2)).toInt), .int (iI (xs (i + 3)).toInt)]) (rest := [.long (lI r1)]) ⟨hx, hb, hml, hown, hts⟩ (ctX9_sum l E (xs (i + 1)).toInt (xs (i + 2)).toInt (xs (i + 3)).toInt σ1 _ (iI_of _).2 (iI_of _).2 (iI_of _).2 hq) (cwV 3 hts gL_law_X9_sum rfl rfl rfl ⟨rfl, hdX9_sum⟩ ⟨Nat.le_of_ble_eq_true rfl, Nat.le_of_ble_eq_true rfl⟩) hK hN hg (recv_x (ci := 9) (C := RX9) (T := TX9) (N := 27) hg hK (by decide) rfl (by decide) rfl) rfl hl.1 rfl (cat_sum _ (by simp)) dL_law_507 (show 39 + (sz σ1 - ez E) + 0 ≤ 600000 ∧ 19543 + 9 * (sz σ1 - ez E) + 0 ≤ 7302250 by have q1 := hg.1.2.2.2.2.2.2.2.2.1; unfold tpE at *; omega)) hg (fun r2 σ2 H locs hm2 hq hg => ?_)
  have ht : sz σ2 ≤ tpE E := Nat.le_trans hm2.2.2 ht
  refine W_narrowL hg hes hez hez0 ?_
  obtain ⟨rfl, hLP⟩ := hq
  refine l_same (tgt := 1395) hx hb dL_law_510 dL_law_511 (by decide) ?_
  exact kk σ2 H locs hg ht hLP
set_option maxRecDepth 100000 in
set_option maxHeartbeats 4000000 in
theorem lc_most {p : Program} {l : Launch} {e : Env} {s : State} {m : MethodId} {below : List Frame} {meth : Method} {c : Code} {H : Heap} {locs : List Loc} {ls : Array Slot} {b L i n : Nat} {xs : Nat → Int32} {E : Ev} {σ : SS} (X : LX p s m meth c b L xs E) (hi : i + 5 ≤ L) (hn : n ≤ 1000) (hg : GS E σ s H locs) (ht : sz σ ≤ tpE E) (h : LPz (ez E) n σ) (hl : lv_has ls 4 (lvL E b i)) (kk : LK p l e s m below meth c b E n ls) : W p l e room_1 s m #[Value.ref b] below meth c H locs (39 + (sz σ - ez E)) (19543 + 9 * (sz σ - ez E)) (lw_Z below #[Value.ref b] s) (F0 m 516 ls []) := by
  obtain ⟨hx, hb, hr, hml, hown, hts, hX, hbl, hlocks, hL, hK, hN, hE0, hes, hez, hez0⟩ := id X
  have hq := lp_most (x1 := (xs (i + 1)).toInt) (x2 := (xs (i + 2)).toInt) (x3 := (xs (i + 3)).toInt) (x4 := (xs (i + 4)).toInt) (tp := tpE E) (n := n) (hBE E) hn h
  refine lv_aload_n hx hb dL_law_516 rfl (lv_at hl 1 rfl) ?_
  refine l_arg (k := 1) hx hb hX hbl hE0 hg hL (by omega) hl dL_law_517 dL_law_518 dL_law_519 dL_law_520 dL_law_521 ?_
  refine l_arg (k := 2) hx hb hX hbl hE0 hg hL (by omega) hl dL_law_522 dL_law_523 dL_law_524 dL_law_525 dL_law_526 ?_
  refine l_arg (k := 3) hx hb hX hbl hE0 hg hL (by omega) hl dL_law_527 dL_law_528 dL_law_529 dL_law_530 dL_law_531 ?_
  refine l_arg (k := 4) hx hb hX hbl hE0 hg hL (by omega) hl dL_law_532 dL_law_533 dL_law_534 dL_law_535 dL_law_536 ?_
  refine call_i (run_V (a := ea E 0) (As := [.int (iI (xs (i + 1)).toInt), .int (iI (xs (i + 2)).toInt), .int (iI (xs (i + 3)).toInt), .int (iI (xs (i + 4)).toInt)]) (rest := []) ⟨hx, hb, hml, hown, hts⟩ (ctX8_most l E (xs (i + 1)).toInt (xs (i + 2)).toInt (xs (i + 3)).toInt (xs (i + 4)).toInt σ _ (iI_of _).2 (iI_of _).2 (iI_of _).2 (iI_of _).2 hq) (cwV 4 hts gL_law_X8_most rfl rfl rfl ⟨rfl, hdX8_most⟩ ⟨Nat.le_of_ble_eq_true rfl, Nat.le_of_ble_eq_true rfl⟩) hK hN hg (recv_x (ci := 8) (C := RX8) (T := TX8) (N := 14) hg hK (by decide) rfl (by decide) rfl) rfl hl.1 rfl (cat_sum _ (by simp)) dL_law_537 (show 39 + (sz σ - ez E) + 0 ≤ 600000 ∧ 19543 + 9 * (sz σ - ez E) + 0 ≤ 7302250 by have q1 := hg.1.2.2.2.2.2.2.2.2.1; unfold tpE at *; omega)) hg (fun r1 σ1 H locs hz0 hm2 hq hg => ?_)
  have ht : sz σ1 ≤ tpE E := Nat.le_trans hm2.2.2 ht
  refine W_narrowL hg hes hez hez0 ?_
  refine lv_aload_n hx hb dL_law_540 rfl (lv_at hl 2 rfl) ?_
  refine l_arg (k := 1) hx hb hX hbl hE0 hg hL (by omega) hl dL_law_541 dL_law_542 dL_law_543 dL_law_544 dL_law_545 ?_
  refine l_arg (k := 2) hx hb hX hbl hE0 hg hL (by omega) hl dL_law_546 dL_law_547 dL_law_548 dL_law_549 dL_law_550 ?_
  refine l_arg (k := 3) hx hb hX hbl hE0 hg hL (by omega) hl dL_law_551 dL_law_552 dL_law_553 dL_law_554 dL_law_555 ?_
  refine l_arg (k := 4) hx hb hX hbl hE0 hg hL (by omega) hl dL_law_556 dL_law_557 dL_law_558 dL_law_559 dL_law_560 ?_
  refine call_i (run_V (a := ea E 21) (As := [.int (iI (xs (i + 1)).toInt), .int (iI (xs (i + 2)).toInt), .int (iI (xs (i + 3)).toInt), .int (iI (xs (i + 4)).toInt)]) (rest := [.int (iI r1)]) ⟨hx, hb, hml, hown, hts⟩ (ctX9_most l E (xs (i + 1)).toInt (xs (i + 2)).toInt (xs (i + 3)).toInt (xs (i + 4)).toInt σ1 _ (iI_of _).2 (iI_of _).2 (iI_of _).2 (iI_of _).2 hq) (cwV 4 hts gL_law_X9_most rfl rfl rfl ⟨rfl, hdX9_most⟩ ⟨Nat.le_of_ble_eq_true rfl, Nat.le_of_ble_eq_true rfl⟩) hK hN hg (recv_x (ci := 9) (C := RX9) (T := TX9) (N := 27) hg hK (by decide) rfl (by decide) rfl) rfl hl.1 rfl (cat_sum _ (by simp)) dL_law_561 (show 39 + (sz σ1 - ez E) + 0 ≤ 600000 ∧ 19543 + 9 * (sz σ1 - ez E) + 0 ≤ 7302250 by have q1 := hg.1.2.2.2.2.2.2.2.2.1; unfold tpE at *; omega)) hg (fun r2 σ2 H locs hz1 hm2 hq hg => ?_)
  have ht : sz σ2 ≤ tpE E := Nat.le_trans hm2.2.2 ht
  refine W_narrowL hg hes hez hez0 ?_
  obtain ⟨rfl, hLP⟩ := hq
  refine lv_icmp_eq (tgt := 1395) hx hb dL_law_564 (by decide) (fun _ => ?_) (fun q => absurd rfl q)
  exact kk σ2 H locs hg ht hLP
set_option maxRecDepth 100000 in
set_option maxHeartbeats 4000000 in
theorem lc_middle {p : Program} {l : Launch} {e : Env} {s : State} {m : MethodId} {below : List Frame} {meth : Method} {c : Code} {H : Heap} {locs : List Loc} {ls : Array Slot} {b L i n : Nat} {xs : Nat → Int32} {E : Ev} {σ : SS} (X : LX p s m meth c b L xs E) (hi : i + 5 ≤ L) (hn : n ≤ 1000) (hg : GS E σ s H locs) (ht : sz σ ≤ tpE E) (h : LPz (ez E) n σ) (hl : lv_has ls 4 (lvL E b i)) (kk : LK p l e s m below meth c b E n ls) : W p l e room_1 s m #[Value.ref b] below meth c H locs (39 + (sz σ - ez E)) (19543 + 9 * (sz σ - ez E)) (lw_Z below #[Value.ref b] s) (F0 m 569 ls []) := by
  obtain ⟨hx, hb, hr, hml, hown, hts, hX, hbl, hlocks, hL, hK, hN, hE0, hes, hez, hez0⟩ := id X
  have hq := lp_middle (x1 := (xs (i + 1)).toInt) (x2 := (xs (i + 2)).toInt) (x3 := (xs (i + 3)).toInt) (tp := tpE E) (n := n) (hBE E) hn h
  refine lv_aload_n hx hb dL_law_569 rfl (lv_at hl 1 rfl) ?_
  refine l_arg (k := 1) hx hb hX hbl hE0 hg hL (by omega) hl dL_law_570 dL_law_571 dL_law_572 dL_law_573 dL_law_574 ?_
  refine l_arg (k := 2) hx hb hX hbl hE0 hg hL (by omega) hl dL_law_575 dL_law_576 dL_law_577 dL_law_578 dL_law_579 ?_
  refine l_arg (k := 3) hx hb hX hbl hE0 hg hL (by omega) hl dL_law_580 dL_law_581 dL_law_582 dL_law_583 dL_law_584 ?_
  refine call_i (run_V (a := ea E 0) (As := [.int (iI (xs (i + 1)).toInt), .int (iI (xs (i + 2)).toInt), .int (iI (xs (i + 3)).toInt)]) (rest := []) ⟨hx, hb, hml, hown, hts⟩ (ctX8_middle l E (xs (i + 1)).toInt (xs (i + 2)).toInt (xs (i + 3)).toInt σ _ (iI_of _).2 (iI_of _).2 (iI_of _).2 hq) (cwV 3 hts gL_law_X8_middle rfl rfl rfl ⟨rfl, hdX8_middle⟩ ⟨Nat.le_of_ble_eq_true rfl, Nat.le_of_ble_eq_true rfl⟩) hK hN hg (recv_x (ci := 8) (C := RX8) (T := TX8) (N := 14) hg hK (by decide) rfl (by decide) rfl) rfl hl.1 rfl (cat_sum _ (by simp)) dL_law_585 (show 39 + (sz σ - ez E) + 0 ≤ 600000 ∧ 19543 + 9 * (sz σ - ez E) + 0 ≤ 7302250 by have q1 := hg.1.2.2.2.2.2.2.2.2.1; unfold tpE at *; omega)) hg (fun r1 σ1 H locs hz0 hm2 hq hg => ?_)
  have ht : sz σ1 ≤ tpE E := Nat.le_trans hm2.2.2 ht
  refine W_narrowL hg hes hez hez0 ?_
  refine lv_aload_n hx hb dL_law_588 rfl (lv_at hl 2 rfl) ?_
  refine l_arg (k := 1) hx hb hX hbl hE0 hg hL (by omega) hl dL_law_589 dL_law_590 dL_law_591 dL_law_592 dL_law_593 ?_
  refine l_arg (k := 2) hx hb hX hbl hE0 hg hL (by omega) hl dL_law_594 dL_law_595 dL_law_596 dL_law_597 dL_law_598 ?_
  refine l_arg (k := 3) hx hb hX hbl hE0 hg hL (by omega) hl dL_law_599 dL_law_600 dL_law_601 dL_law_602 dL_law_603 ?_
  refine call_i (run_V (a := ea E 21) (As := [.int (iI (xs (i + 1)).toInt), .int (iI (xs (i + 2)).toInt), .int (iI (xs (i + 3)).toInt)]) (rest := [.int (iI r1)]) ⟨hx, hb, hml, hown, hts⟩ (ctX9_middle l E (xs (i + 1)).toInt (xs (i + 2)).toInt (xs (i + 3)).toInt σ1 _ (iI_of _).2 (iI_of _).2 (iI_of _).2 hq) (cwV 3 hts gL_law_X9_middle rfl rfl rfl ⟨rfl, hdX9_middle⟩ ⟨Nat.le_of_ble_eq_true rfl, Nat.le_of_ble_eq_true rfl⟩) hK hN hg (recv_x (ci := 9) (C := RX9) (T := TX9) (N := 27) hg hK (by decide) rfl (by decide) rfl) rfl hl.1 rfl (cat_sum _ (by simp)) dL_law_604 (show 39 + (sz σ1 - ez E) + 0 ≤ 600000 ∧ 19543 + 9 * (sz σ1 - ez E) + 0 ≤ 7302250 by have q1 := hg.1.2.2.2.2.2.2.2.2.1; unfold tpE at *; omega)) hg (fun r2 σ2 H locs hz1 hm2 hq hg => ?_)
  have ht : sz σ2 ≤ tpE E := Nat.le_trans hm2.2.2 ht
  refine W_narrowL hg hes hez hez0 ?_
  obtain ⟨rfl, hLP⟩ := hq
  refine lv_icmp_eq (tgt := 1395) hx hb dL_law_607 (by decide) (fun _ => ?_) (fun q => absurd rfl q)
  exact kk σ2 H locs hg ht hLP
set_option maxRecDepth 100000 in
set_option maxHeartbeats 4000000 in
theorem lc_gap {p : Program} {l : Launch} {e : Env} {s : State} {m : MethodId} {below : List Frame} {meth : Method} {c : Code} {H : Heap} {locs : List Loc} {ls : Array Slot} {b L i n : Nat} {xs : Nat → Int32} {E : Ev} {σ : SS} (X : LX p s m meth c b L xs E) (hi : i + 5 ≤ L) (hn : n ≤ 1000) (hg : GS E σ s H locs) (ht : sz σ ≤ tpE E) (h : LPz (ez E) n σ) (hl : lv_has ls 4 (lvL E b i)) (kk : LK p l e s m below meth c b E n ls) : W p l e room_1 s m #[Value.ref b] below meth c H locs (39 + (sz σ - ez E)) (19543 + 9 * (sz σ - ez E)) (lw_Z below #[Value.ref b] s) (F0 m 612 ls []) := by
  obtain ⟨hx, hb, hr, hml, hown, hts, hX, hbl, hlocks, hL, hK, hN, hE0, hes, hez, hez0⟩ := id X
  have hq := lp_gap (x1 := (xs (i + 1)).toInt) (tp := tpE E) (n := n) (hBE E) hn h
  refine lv_aload_n hx hb dL_law_612 rfl (lv_at hl 1 rfl) ?_
  refine l_arg (k := 1) hx hb hX hbl hE0 hg hL (by omega) hl dL_law_613 dL_law_614 dL_law_615 dL_law_616 dL_law_617 ?_
  refine call_i (run_V (a := ea E 0) (As := [.int (iI (xs (i + 1)).toInt)]) (rest := []) ⟨hx, hb, hml, hown, hts⟩ (ctX8_gap l E (xs (i + 1)).toInt σ _ (iI_of _).2 hq) (cwV 1 hts gL_law_X8_gap rfl rfl rfl ⟨rfl, hdX8_gap⟩ ⟨Nat.le_of_ble_eq_true rfl, Nat.le_of_ble_eq_true rfl⟩) hK hN hg (recv_x (ci := 8) (C := RX8) (T := TX8) (N := 14) hg hK (by decide) rfl (by decide) rfl) rfl hl.1 rfl (cat_sum _ (by simp)) dL_law_618 (show 39 + (sz σ - ez E) + 0 ≤ 600000 ∧ 19543 + 9 * (sz σ - ez E) + 0 ≤ 7302250 by have q1 := hg.1.2.2.2.2.2.2.2.2.1; unfold tpE at *; omega)) hg (fun r1 σ1 H locs hz0 hm2 hq hg => ?_)
  have ht : sz σ1 ≤ tpE E := Nat.le_trans hm2.2.2 ht
  refine W_narrowL hg hes hez hez0 ?_
  refine lv_aload_n hx hb dL_law_621 rfl (lv_at hl 2 rfl) ?_
  refine l_arg (k := 1) hx hb hX hbl hE0 hg hL (by omega) hl dL_law_622 dL_law_623 dL_law_624 dL_law_625 dL_law_626 ?_
  refine call_i (run_V (a := ea E 21) (As := [.int (iI (xs (i + 1)).toInt)]) (rest := [.int (iI r1)]) ⟨hx, hb, hml, hown, hts⟩ (ctX9_gap l E (xs (i + 1)).toInt σ1 _ (iI_of _).2 hq) (cwV 1 hts gL_law_X9_gap rfl rfl rfl ⟨rfl, hdX9_gap⟩ ⟨Nat.le_of_ble_eq_true rfl, Nat.le_of_ble_eq_true rfl⟩) hK hN hg (recv_x (ci := 9) (C := RX9) (T := TX9) (N := 27) hg hK (by decide) rfl (by decide) rfl) rfl hl.1 rfl (cat_sum _ (by simp)) dL_law_627 (show 39 + (sz σ1 - ez E) + 0 ≤ 600000 ∧ 19543 + 9 * (sz σ1 - ez E) + 0 ≤ 7302250 by have q1 := hg.1.2.2.2.2.2.2.2.2.1; unfold tpE at *; omega)) hg (fun r2 σ2 H locs hz1 hm2 hq hg => ?_)
  have ht : sz σ2 ≤ tpE E := Nat.le_trans hm2.2.2 ht
  refine W_narrowL hg hes hez hez0 ?_
  obtain ⟨rfl, hLP⟩ := hq
  refine lv_icmp_eq (tgt := 1395) hx hb dL_law_630 (by decide) (fun _ => ?_) (fun q => absurd rfl q)
  exact kk σ2 H locs hg ht hLP
