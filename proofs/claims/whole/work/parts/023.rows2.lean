section
variable {p : Program} {l : Launch} {e : Env} {R : Room} {s : State} {m : MethodId} {args : Array Value} {below : List Frame} {meth : Method} {c : Code} {H : Heap} {locs : List Loc} {cells slots : Nat} {Q : State → Prop}
variable {cc : ByteArray} {pc : Nat} {ls : Array Slot} {rest : List Value} {E : Ev} {σ : SS}
variable {own ref C : String} {T : u_T} {N ci index : Nat} {Ts : List Cond}
theorem HC_obN {i : Nat} (hg : GS E σ s H locs) (hi : i < 39) (hfc : fcl i = ci) (hln : fln i = N) (h10 : ci < 10) : t_OB (ea E i) ((eD E).1 ci) N ((eD E).2 ci) H (cv E σ ci i) := by
  rw [← hln]; exact HC_ob (hg.1.1 i hi) hfc h10
/-- fields of the fixed cells -/
theorem q_geti (hexec : p.tables.exec = Jvm.exec) (hb : c.code = cc) (hts : ∀ w ∈ Ts, w.before args s = true) (hin : ∀ w ∈ u_ws C T N, w ∈ Ts) (hown : s.vm.findClass own = some m.cls) (hK : KK E s) (hg : GS E σ s H locs) (i : Nat) (hi : i < 39) (hfc : fcl i = ci) (hln : fln i = N) (h10 : ci < 10) (hc : vwCl[ci]? = some (C, T, N)) (k : Nat) (hk : k < N)
    (hlink : (Cond.fieldLink own index ref (T k).2.1 (T k).2.2.1).before args s = true) (href : (T k).1 = ref) (hfk : ffk ci k = 0) (hdg : decode cc pc = .ok (.getfield index, 3)) (kk : W p l e R s m args below meth c H locs cells slots Q (F0 m (pc + 3) ls (.int (iI (sn σ i k)) :: rest))) : W p l e R s m args below meth c H locs cells slots Q (F0 m pc ls (.ref (ea E i) :: rest)) :=
  q_get hexec hb hts hin hown hK (HC_obN hg hi hfc hln h10) hc k hk hlink href (by simp only [cv, hfk]) hdg kk
theorem q_getr (hexec : p.tables.exec = Jvm.exec) (hb : c.code = cc) (hts : ∀ w ∈ Ts, w.before args s = true) (hin : ∀ w ∈ u_ws C T N, w ∈ Ts) (hown : s.vm.findClass own = some m.cls) (hK : KK E s) (hg : GS E σ s H locs) (i : Nat) (hi : i < 39) (hfc : fcl i = ci) (hln : fln i = N) (h10 : ci < 10) (hc : vwCl[ci]? = some (C, T, N)) (k : Nat) (hk : k < N)
    (hlink : (Cond.fieldLink own index ref (T k).2.1 (T k).2.2.1).before args s = true) (href : (T k).1 = ref) (hfk : ffk ci k = 2) (hdg : decode cc pc = .ok (.getfield index, 3)) (kk : W p l e R s m args below meth c H locs cells slots Q (F0 m (pc + 3) ls (va_rf (sf σ i k) :: rest))) : W p l e R s m args below meth c H locs cells slots Q (F0 m pc ls (.ref (ea E i) :: rest)) :=
  q_get hexec hb hts hin hown hK (HC_obN hg hi hfc hln h10) hc k hk hlink href (by simp only [cv, hfk]) hdg kk
theorem q_getx (hexec : p.tables.exec = Jvm.exec) (hb : c.code = cc) (hts : ∀ w ∈ Ts, w.before args s = true) (hin : ∀ w ∈ u_ws C T N, w ∈ Ts) (hown : s.vm.findClass own = some m.cls) (hK : KK E s) (hg : GS E σ s H locs) (i : Nat) (hi : i < 39) (hfc : fcl i = ci) (hln : fln i = N) (h10 : ci < 10) (hc : vwCl[ci]? = some (C, T, N)) (k : Nat) (hk : k < N)
    (hlink : (Cond.fieldLink own index ref (T k).2.1 (T k).2.2.1).before args s = true) (href : (T k).1 = ref) (hfk : ffk ci k = 3) {j : Nat} (hj : frt i k = j) (hdg : decode cc pc = .ok (.getfield index, 3)) (kk : W p l e R s m args below meth c H locs cells slots Q (F0 m (pc + 3) ls (.ref (ea E j) :: rest))) : W p l e R s m args below meth c H locs cells slots Q (F0 m pc ls (.ref (ea E i) :: rest)) :=
  q_get hexec hb hts hin hown hK (HC_obN hg hi hfc hln h10) hc k hk hlink href (by simp only [cv, hfk, hj]) hdg kk
theorem q_puti (hexec : p.tables.exec = Jvm.exec) (hb : c.code = cc) (hts : ∀ w ∈ Ts, w.before args s = true) (hin : ∀ w ∈ u_ws C T N, w ∈ Ts) (ty0 : Nat → FieldType) (hty : ∀ k, k < N → parseFieldDescriptor (T k).2.2.1 = some (ty0 k)) (hnm : ∀ a, a < N → ∀ b, b < N → a ≠ b → (T a).2.1 ≠ (T b).2.1) (hown : s.vm.findClass own = some m.cls) (hK : KK E s) (hg : GS E σ s H locs) (i : Nat) (hi : i < 39) (hfc : fcl i = ci) (hln : fln i = N) (h10 : ci < 10) (hc : vwCl[ci]? = some (C, T, N)) (k : Nat) (hk : k < N)
    (hlink : (Cond.fieldLink own index ref (T k).2.1 (T k).2.2.1).before args s = true) (href : (T k).1 = ref) (hfin : (T k).2.2.2 = false) (hd : parseFieldDescriptor (T k).2.2.1 = some .int) (hfk : ffk ci k = 0) {v : Int} (hv : R32 v) (hdg : decode cc pc = .ok (.putfield index, 3))
    (kk : ∀ (H1 : Heap) (locs1 : List Loc), GS E (un σ i k v) s H1 locs1 → W p l e R s m args below meth c H1 locs1 cells slots Q (F0 m (pc + 3) ls rest)) : W p l e R s m args below meth c H locs cells slots Q (F0 m pc ls (.int (iI v) :: .ref (ea E i) :: rest)) :=
  q_put hexec hb hts hin ty0 hty hnm hown hK (HC_obN hg hi hfc hln h10) hc k hk hlink href hfin hd rfl rfl hdg (fun H1 slot cell cell' h1 h2 h3 h4 h5 h6 => kk H1 _ (GS_un hg hi hv h1 h2 h3 h4 h5 (HC_of_ob h10 hfc (by rw [hln]; exact ob_un h6 (by simp only [hfk])))))
theorem rf_narrow (C : String) (r : Option Nat) : narrow (.object C) (va_rf r) = va_rf r := by cases r <;> rfl
theorem rf_fits (C : String) (r : Option Nat) : fits (.object C) (va_rf r) = true := by cases r <;> rfl
theorem q_putr (hexec : p.tables.exec = Jvm.exec) (hb : c.code = cc) (hts : ∀ w ∈ Ts, w.before args s = true) (hin : ∀ w ∈ u_ws C T N, w ∈ Ts) (ty0 : Nat → FieldType) (hty : ∀ k, k < N → parseFieldDescriptor (T k).2.2.1 = some (ty0 k)) (hnm : ∀ a, a < N → ∀ b, b < N → a ≠ b → (T a).2.1 ≠ (T b).2.1) (hown : s.vm.findClass own = some m.cls) (hK : KK E s) (hg : GS E σ s H locs) (i : Nat) (hi : i < 39) (hfc : fcl i = ci) (hln : fln i = N) (h10 : ci < 10) (hc : vwCl[ci]? = some (C, T, N)) (k : Nat) (hk : k < N)
    (hlink : (Cond.fieldLink own index ref (T k).2.1 (T k).2.2.1).before args s = true) (href : (T k).1 = ref) (hfin : (T k).2.2.2 = false) (hd : parseFieldDescriptor (T k).2.2.1 = some (.object "JoinMaps$Node")) (hfk : ffk ci k = 2) {r : Option Nat} (hr : ∀ b, r = some b → sS σ b) (hdg : decode cc pc = .ok (.putfield index, 3))
    (kk : ∀ (H1 : Heap) (locs1 : List Loc), GS E (uf σ i k r) s H1 locs1 → W p l e R s m args below meth c H1 locs1 cells slots Q (F0 m (pc + 3) ls rest)) : W p l e R s m args below meth c H locs cells slots Q (F0 m pc ls (va_rf r :: .ref (ea E i) :: rest)) :=
  q_put hexec hb hts hin ty0 hty hnm hown hK (HC_obN hg hi hfc hln h10) hc k hk hlink href hfin hd (rf_narrow _ _) (rf_fits _ _) hdg (fun H1 slot cell cell' h1 h2 h3 h4 h5 h6 => kk H1 _ (GS_uf hg hi hr h1 h2 h3 h4 h5 (HC_of_ob h10 hfc (by rw [hln]; exact ob_uf h6 (by simp only [hfk])))))
/-- fields of the nodes -/
theorem q_ngeti (hexec : p.tables.exec = Jvm.exec) (hb : c.code = cc) (hts : ∀ w ∈ Ts, w.before args s = true) (hin : ∀ w ∈ wsX30, w ∈ Ts) (hown : s.vm.findClass own = some m.cls) (hK : KK E s) (hg : GS E σ s H locs) {b : Nat} (hS : sS σ b) (k : Nat) (hk : k < 9)
    (hlink : (Cond.fieldLink own index ref (TX3 k).2.1 (TX3 k).2.2.1).before args s = true) (href : (TX3 k).1 = ref) (hfk : ffk 3 k = 0) (hdg : decode cc pc = .ok (.getfield index, 3)) (kk : W p l e R s m args below meth c H locs cells slots Q (F0 m (pc + 3) ls (.int (iI (sn σ (b + 64) k)) :: rest))) : W p l e R s m args below meth c H locs cells slots Q (F0 m pc ls (.ref b :: rest)) :=
  q_get (ci := 3) (C := RX3) (T := TX3) (N := 9) hexec hb hts hin hown hK (hg.1.2.1 b hS) rfl k hk hlink href (by simp only [cv, hfk]) hdg kk
theorem q_ngetl (hexec : p.tables.exec = Jvm.exec) (hb : c.code = cc) (hts : ∀ w ∈ Ts, w.before args s = true) (hin : ∀ w ∈ wsX30, w ∈ Ts) (hown : s.vm.findClass own = some m.cls) (hK : KK E s) (hg : GS E σ s H locs) {b : Nat} (hS : sS σ b) (k : Nat) (hk : k < 9)
    (hlink : (Cond.fieldLink own index ref (TX3 k).2.1 (TX3 k).2.2.1).before args s = true) (href : (TX3 k).1 = ref) (hfk : ffk 3 k = 1) (hdg : decode cc pc = .ok (.getfield index, 3)) (kk : W p l e R s m args below meth c H locs cells slots Q (F0 m (pc + 3) ls (.long (lI (sn σ (b + 64) k)) :: rest))) : W p l e R s m args below meth c H locs cells slots Q (F0 m pc ls (.ref b :: rest)) :=
  q_get (ci := 3) (C := RX3) (T := TX3) (N := 9) hexec hb hts hin hown hK (hg.1.2.1 b hS) rfl k hk hlink href (by simp only [cv, hfk]) hdg kk
theorem q_ngetr (hexec : p.tables.exec = Jvm.exec) (hb : c.code = cc) (hts : ∀ w ∈ Ts, w.before args s = true) (hin : ∀ w ∈ wsX30, w ∈ Ts) (hown : s.vm.findClass own = some m.cls) (hK : KK E s) (hg : GS E σ s H locs) {b : Nat} (hS : sS σ b) (k : Nat) (hk : k < 9)
    (hlink : (Cond.fieldLink own index ref (TX3 k).2.1 (TX3 k).2.2.1).before args s = true) (href : (TX3 k).1 = ref) (hfk : ffk 3 k = 2) (hdg : decode cc pc = .ok (.getfield index, 3)) (kk : W p l e R s m args below meth c H locs cells slots Q (F0 m (pc + 3) ls (va_rf (sf σ (b + 64) k) :: rest))) : W p l e R s m args below meth c H locs cells slots Q (F0 m pc ls (.ref b :: rest)) :=
  q_get (ci := 3) (C := RX3) (T := TX3) (N := 9) hexec hb hts hin hown hK (hg.1.2.1 b hS) rfl k hk hlink href (by simp only [cv, hfk]) hdg kk
theorem q_nputi (hexec : p.tables.exec = Jvm.exec) (hb : c.code = cc) (hts : ∀ w ∈ Ts, w.before args s = true) (hin : ∀ w ∈ wsX30, w ∈ Ts) (hown : s.vm.findClass own = some m.cls) (hK : KK E s) (hg : GS E σ s H locs) {b : Nat} (hS : sS σ b) (k : Nat) (hk : k < 9)
    (hlink : (Cond.fieldLink own index ref (TX3 k).2.1 (TX3 k).2.2.1).before args s = true) (href : (TX3 k).1 = ref) (hfin : (TX3 k).2.2.2 = false) (hd : parseFieldDescriptor (TX3 k).2.2.1 = some .int) (hfk : ffk 3 k = 0) {v : Int} (hv : R32 v) (hdg : decode cc pc = .ok (.putfield index, 3))
    (kk : ∀ (H1 : Heap) (locs1 : List Loc), GS E (un σ (b + 64) k v) s H1 locs1 → W p l e R s m args below meth c H1 locs1 cells slots Q (F0 m (pc + 3) ls rest)) : W p l e R s m args below meth c H locs cells slots Q (F0 m pc ls (.int (iI v) :: .ref b :: rest)) :=
  q_put (ci := 3) (C := RX3) (T := TX3) (N := 9) hexec hb hts hin tyX3 tyX3_ok nmX3 hown hK (hg.1.2.1 b hS) rfl k hk hlink href hfin hd rfl rfl hdg (fun H1 slot cell cell' h1 h2 h3 h4 h5 h6 => kk H1 _ (GS_nun hg hS hv h1 h2 h3 h4 h5 (ob_un h6 (by simp only [hfk]))))
theorem q_nputl (hexec : p.tables.exec = Jvm.exec) (hb : c.code = cc) (hts : ∀ w ∈ Ts, w.before args s = true) (hin : ∀ w ∈ wsX30, w ∈ Ts) (hown : s.vm.findClass own = some m.cls) (hK : KK E s) (hg : GS E σ s H locs) {b : Nat} (hS : sS σ b) (k : Nat) (hk : k < 9)
    (hlink : (Cond.fieldLink own index ref (TX3 k).2.1 (TX3 k).2.2.1).before args s = true) (href : (TX3 k).1 = ref) (hfin : (TX3 k).2.2.2 = false) (hd : parseFieldDescriptor (TX3 k).2.2.1 = some .long) (hfk : ffk 3 k = 1) {v : Int} (hv : R32 v) (hdg : decode cc pc = .ok (.putfield index, 3))
    (kk : ∀ (H1 : Heap) (locs1 : List Loc), GS E (un σ (b + 64) k v) s H1 locs1 → W p l e R s m args below meth c H1 locs1 cells slots Q (F0 m (pc + 3) ls rest)) : W p l e R s m args below meth c H locs cells slots Q (F0 m pc ls (.long (lI v) :: .ref b :: rest)) :=
  q_put (ci := 3) (C := RX3) (T := TX3) (N := 9) hexec hb hts hin tyX3 tyX3_ok nmX3 hown hK (hg.1.2.1 b hS) rfl k hk hlink href hfin hd rfl rfl hdg (fun H1 slot cell cell' h1 h2 h3 h4 h5 h6 => kk H1 _ (GS_nun hg hS hv h1 h2 h3 h4 h5 (ob_un h6 (by simp only [hfk]))))
theorem q_nputr (hexec : p.tables.exec = Jvm.exec) (hb : c.code = cc) (hts : ∀ w ∈ Ts, w.before args s = true) (hin : ∀ w ∈ wsX30, w ∈ Ts) (hown : s.vm.findClass own = some m.cls) (hK : KK E s) (hg : GS E σ s H locs) {b : Nat} (hS : sS σ b) (k : Nat) (hk : k < 9)
    (hlink : (Cond.fieldLink own index ref (TX3 k).2.1 (TX3 k).2.2.1).before args s = true) (href : (TX3 k).1 = ref) (hfin : (TX3 k).2.2.2 = false) (hd : parseFieldDescriptor (TX3 k).2.2.1 = some (.object "JoinMaps$Node")) (hfk : ffk 3 k = 2) {r : Option Nat} (hr : ∀ b, r = some b → sS σ b) (hdg : decode cc pc = .ok (.putfield index, 3))
    (kk : ∀ (H1 : Heap) (locs1 : List Loc), GS E (uf σ (b + 64) k r) s H1 locs1 → W p l e R s m args below meth c H1 locs1 cells slots Q (F0 m (pc + 3) ls rest)) : W p l e R s m args below meth c H locs cells slots Q (F0 m pc ls (va_rf r :: .ref b :: rest)) :=
  q_put (ci := 3) (C := RX3) (T := TX3) (N := 9) hexec hb hts hin tyX3 tyX3_ok nmX3 hown hK (hg.1.2.1 b hS) rfl k hk hlink href hfin hd (rf_narrow _ _) (rf_fits _ _) hdg (fun H1 slot cell cell' h1 h2 h3 h4 h5 h6 => kk H1 _ (GS_nuf hg hS hr h1 h2 h3 h4 h5 (ob_uf h6 (by simp only [hfk]))))
/-- rows (arrays) -/
theorem q_iald (hexec : p.tables.exec = Jvm.exec) (hb : c.code = cc) (hK : KK E s) (hg : GS E σ s H locs) (i : Nat) (hi : i < 39) (hfc : fcl i = 20) (hln : fln i = N) {z : Int} (h0 : 0 ≤ z) (h1 : z < N) (hN : N < 2147483648) (hdg : decode cc pc = .ok (.iaload, 1))
    (kk : W p l e R s m args below meth c H locs cells slots Q (F0 m (pc + 1) ls (.int (iI (sn σ i z.toNat)) :: rest))) : W p l e R s m args below meth c H locs cells slots Q (F0 m pc ls (.int (iI z) :: .ref (ea E i) :: rest)) := by
  have hP : va_P (eD E) vwCl [(ea E i, .inl (eI E, N, .inl (fun k => iI (sn σ i k))))] H := by
    intro k q hk
    cases k with
    | zero => cases hk; rw [← hln]; exact HC_ai (hg.1.1 i hi) hfc
    | succ k => simp at hk
  refine va_iald hexec hb hK hP 0 0 rfl rfl (iI_in h0 h1 hN) hdg ?_
  rw [iI_clamp h0 (by omega)]
  exact kk
theorem q_bald (hexec : p.tables.exec = Jvm.exec) (hb : c.code = cc) (hK : KK E s) (hg : GS E σ s H locs) (i : Nat) (hi : i < 39) (hfc : fcl i = 21) (hln : fln i = N) {z : Int} (h0 : 0 ≤ z) (h1 : z < N) (hN : N < 2147483648) (hdg : decode cc pc = .ok (.baload, 1))
    (kk : W p l e R s m args below meth c H locs cells slots Q (F0 m (pc + 1) ls (.int (iI (sn σ i z.toNat)) :: rest))) : W p l e R s m args below meth c H locs cells slots Q (F0 m pc ls (.int (iI z) :: .ref (ea E i) :: rest)) := by
  have hP : va_P (eD E) vwCl [(ea E i, .inl (eB E, N, .inl (fun k => iI (sn σ i k))))] H := by
    intro k q hk
    cases k with
    | zero => cases hk; rw [← hln]; exact HC_ab (hg.1.1 i hi) hfc
    | succ k => simp at hk
  refine va_bald hexec hb hK hP 0 1 rfl rfl (iI_in h0 h1 hN) hdg ?_
  rw [iI_clamp h0 (by omega)]
  exact kk
theorem q_aald (hexec : p.tables.exec = Jvm.exec) (hb : c.code = cc) (hK : KK E s) (hg : GS E σ s H locs) (i : Nat) (hi : i < 39) (hfc : fcl i = 22) (hln : fln i = N) {z : Int} (h0 : 0 ≤ z) (h1 : z < N) (hN : N < 2147483648) (hdg : decode cc pc = .ok (.aaload, 1))
    (kk : W p l e R s m args below meth c H locs cells slots Q (F0 m (pc + 1) ls (va_rf (sf σ i z.toNat) :: rest))) : W p l e R s m args below meth c H locs cells slots Q (F0 m pc ls (.int (iI z) :: .ref (ea E i) :: rest)) := by
  have hP : va_P (eD E) vwCl [(ea E i, .inl (eR E, N, .inr (.inr (.inr (.inr (fun k => sf σ i k))))))] H := by
    intro k q hk
    cases k with
    | zero => cases hk; rw [← hln]; exact HC_ar (hg.1.1 i hi) hfc
    | succ k => simp at hk
  refine va_aldq hexec hb hK hP 0 2 rfl rfl (iI_in h0 h1 hN) hdg ?_
  rw [iI_clamp h0 (by omega)]
  exact kk
theorem q_alen (hexec : p.tables.exec = Jvm.exec) (hb : c.code = cc) (hK : KK E s) (hg : GS E σ s H locs) (i : Nat) (hi : i < 39) (hfc : fcl i = 20 ∨ fcl i = 21 ∨ fcl i = 22) (hln : fln i = N) (hdg : decode cc pc = .ok (.arraylength, 1))
    (kk : W p l e R s m args below meth c H locs cells slots Q (F0 m (pc + 1) ls (.int (iI (N : Int)) :: rest))) : W p l e R s m args below meth c H locs cells slots Q (F0 m pc ls (.ref (ea E i) :: rest)) := by
  subst hln
  rcases hfc with h | h | h
  · have hP : va_P (eD E) vwCl [(ea E i, .inl (eI E, fln i, .inl (fun k => iI (sn σ i k))))] H := by
      intro k q hk
      cases k with
      | zero => cases hk; exact HC_ai (hg.1.1 i hi) h
      | succ k => simp at hk
    exact va_alen hexec hb hK hP 0 0 rfl rfl (Int32.ofInt_eq_ofNat (n := fln i)).symm hdg kk
  · have hP : va_P (eD E) vwCl [(ea E i, .inl (eB E, fln i, .inl (fun k => iI (sn σ i k))))] H := by
      intro k q hk
      cases k with
      | zero => cases hk; exact HC_ab (hg.1.1 i hi) h
      | succ k => simp at hk
    exact va_alen hexec hb hK hP 0 1 rfl rfl (Int32.ofInt_eq_ofNat (n := fln i)).symm hdg kk
  · have hP : va_P (eD E) vwCl [(ea E i, .inl (eR E, fln i, .inr (.inr (.inr (.inr (fun k => sf σ i k))))))] H := by
      intro k q hk
      cases k with
      | zero => cases hk; exact HC_ar (hg.1.1 i hi) h
      | succ k => simp at hk
    exact va_alen hexec hb hK hP 0 2 rfl rfl (Int32.ofInt_eq_ofNat (n := fln i)).symm hdg kk
end
