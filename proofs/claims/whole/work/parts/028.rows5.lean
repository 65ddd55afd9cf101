/-! ===== more rows: nodes by a known reference, longs compared, bits ===== -/
theorem rowF {x : Nat} (h : x = 15 ∨ x = 18) : x < 39 ∧ fcl x = 6 ∧ fln x = 3 ∧ x + 1 < 39 ∧ fcl (x + 1) = 20 ∧ fln (x + 1) = 200 ∧ x + 2 < 39 ∧ fcl (x + 2) = 20 ∧ fln (x + 2) = 200 ∧ frt x 0 = x + 1 ∧ frt x 1 = x + 2 := by
  rcases h with rfl | rfl <;> decide
theorem arrF {x : Nat} (h : x = 3 ∨ x = 5 ∨ x = 13 ∨ x = 14) : x < 39 ∧ fcl x = 22 ∧ fln x < 2147483648 := by
  rcases h with rfl | rfl | rfl | rfl <;> decide
theorem ct_i (z : Int32) : (Value.int z).category = 1 := rfl
theorem ct_l (z : Int64) : (Value.long z).category = 2 := rfl
theorem ct_x (a : Nat) : (Value.ref a).category = 1 := rfl
theorem lenR {n : Nat} (h : n < 2147483648) : R32 (n : Int) := ⟨by omega, by omega⟩
theorem lk_out {d x : Int} : ∀ {ps : List (Int × Int)}, (∀ q ∈ ps, ¬ x = q.1) → Op.lookupswitch.offset ps d x = d
  | [], _ => rfl
  | (a, o) :: ps, h => by
    rw [Op.lookupswitch.offset, if_neg (fun e => h (a, o) List.mem_cons_self e.symm)]
    exact lk_out (fun q hq => h q (List.mem_cons_of_mem _ hq))
theorem fq_or (a b : Nat) : nI a ||| nI b = nI (a ||| b) := by
  apply Int32.toBitVec_inj.mp
  show BitVec.ofNat 32 a ||| BitVec.ofNat 32 b = BitVec.ofNat 32 (a ||| b)
  apply BitVec.eq_of_toNat_eq
  simp [Nat.or_mod_two_pow]
theorem fq_and (a b : Nat) : nI a &&& nI b = nI (a &&& b) := by
  apply Int32.toBitVec_inj.mp
  show BitVec.ofNat 32 a &&& BitVec.ofNat 32 b = BitVec.ofNat 32 (a &&& b)
  apply BitVec.eq_of_toNat_eq
  simp [Nat.and_mod_two_pow]
theorem iI_nat (n : Nat) : iI (n : Int) = nI n := Int32.ofInt_eq_ofNat
theorem sh_amt {k : Nat} (h : k < 31) : ((nI k &&& 31).toBitVec.smod 32).toNat = k := by
  have key : ∀ j : Fin 31, ((nI j.val &&& 31).toBitVec.smod 32).toNat = j.val := by decide +kernel
  exact key ⟨k, h⟩
section
variable {p : Program} {l : Launch} {e : Env} {R : Room} {s : State} {m : MethodId} {args : Array Value} {below : List Frame} {meth : Method} {c : Code} {H : Heap} {locs : List Loc} {cells slots : Nat} {Q : State → Prop}
variable {cc : ByteArray} {pc : Nat} {ls : Array Slot} {rest : List Value} {E : Ev} {σ : SS}
variable {own ref : String} {index : Nat} {Ts : List Cond} {r0 : Option Nat} {b : Nat}
theorem q_ngeti_o (h0 : r0 = some b) (hexec : p.tables.exec = Jvm.exec) (hb : c.code = cc) (hts : ∀ w ∈ Ts, w.before args s = true) (hin : ∀ w ∈ wsX30, w ∈ Ts) (hown : s.vm.findClass own = some m.cls) (hK : KK E s) (hg : GS E σ s H locs) (hS : sS σ b) (k : Nat) (hk : k < 9)
    (hlink : (Cond.fieldLink own index ref (TX3 k).2.1 (TX3 k).2.2.1).before args s = true) (href : (TX3 k).1 = ref) (hfk : ffk 3 k = 0) (hdg : decode cc pc = .ok (.getfield index, 3)) (kk : W p l e R s m args below meth c H locs cells slots Q (F0 m (pc + 3) ls (.int (iI (sn σ (b + 64) k)) :: rest))) : W p l e R s m args below meth c H locs cells slots Q (F0 m pc ls (va_rf r0 :: rest)) := by
  subst h0; exact q_ngeti hexec hb hts hin hown hK hg hS k hk hlink href hfk hdg kk
theorem q_ngetl_o (h0 : r0 = some b) (hexec : p.tables.exec = Jvm.exec) (hb : c.code = cc) (hts : ∀ w ∈ Ts, w.before args s = true) (hin : ∀ w ∈ wsX30, w ∈ Ts) (hown : s.vm.findClass own = some m.cls) (hK : KK E s) (hg : GS E σ s H locs) (hS : sS σ b) (k : Nat) (hk : k < 9)
    (hlink : (Cond.fieldLink own index ref (TX3 k).2.1 (TX3 k).2.2.1).before args s = true) (href : (TX3 k).1 = ref) (hfk : ffk 3 k = 1) (hdg : decode cc pc = .ok (.getfield index, 3)) (kk : W p l e R s m args below meth c H locs cells slots Q (F0 m (pc + 3) ls (.long (lI (sn σ (b + 64) k)) :: rest))) : W p l e R s m args below meth c H locs cells slots Q (F0 m pc ls (va_rf r0 :: rest)) := by
  subst h0; exact q_ngetl hexec hb hts hin hown hK hg hS k hk hlink href hfk hdg kk
theorem q_ngetr_o (h0 : r0 = some b) (hexec : p.tables.exec = Jvm.exec) (hb : c.code = cc) (hts : ∀ w ∈ Ts, w.before args s = true) (hin : ∀ w ∈ wsX30, w ∈ Ts) (hown : s.vm.findClass own = some m.cls) (hK : KK E s) (hg : GS E σ s H locs) (hS : sS σ b) (k : Nat) (hk : k < 9)
    (hlink : (Cond.fieldLink own index ref (TX3 k).2.1 (TX3 k).2.2.1).before args s = true) (href : (TX3 k).1 = ref) (hfk : ffk 3 k = 2) (hdg : decode cc pc = .ok (.getfield index, 3)) (kk : W p l e R s m args below meth c H locs cells slots Q (F0 m (pc + 3) ls (va_rf (sf σ (b + 64) k) :: rest))) : W p l e R s m args below meth c H locs cells slots Q (F0 m pc ls (va_rf r0 :: rest)) := by
  subst h0; exact q_ngetr hexec hb hts hin hown hK hg hS k hk hlink href hfk hdg kk
theorem q_nputi_o (h0 : r0 = some b) (hexec : p.tables.exec = Jvm.exec) (hb : c.code = cc) (hts : ∀ w ∈ Ts, w.before args s = true) (hin : ∀ w ∈ wsX30, w ∈ Ts) (hown : s.vm.findClass own = some m.cls) (hK : KK E s) (hg : GS E σ s H locs) (hS : sS σ b) (k : Nat) (hk : k < 9)
    (hlink : (Cond.fieldLink own index ref (TX3 k).2.1 (TX3 k).2.2.1).before args s = true) (href : (TX3 k).1 = ref) (hfin : (TX3 k).2.2.2 = false) (hd : parseFieldDescriptor (TX3 k).2.2.1 = some .int) (hfk : ffk 3 k = 0) {v : Int} (hv : R32 v) (hdg : decode cc pc = .ok (.putfield index, 3))
    (kk : ∀ (H1 : Heap) (locs1 : List Loc), GS E (un σ (b + 64) k v) s H1 locs1 → W p l e R s m args below meth c H1 locs1 cells slots Q (F0 m (pc + 3) ls rest)) : W p l e R s m args below meth c H locs cells slots Q (F0 m pc ls (.int (iI v) :: va_rf r0 :: rest)) := by
  subst h0; exact q_nputi hexec hb hts hin hown hK hg hS k hk hlink href hfin hd hfk hv hdg kk
theorem q_nputl_o (h0 : r0 = some b) (hexec : p.tables.exec = Jvm.exec) (hb : c.code = cc) (hts : ∀ w ∈ Ts, w.before args s = true) (hin : ∀ w ∈ wsX30, w ∈ Ts) (hown : s.vm.findClass own = some m.cls) (hK : KK E s) (hg : GS E σ s H locs) (hS : sS σ b) (k : Nat) (hk : k < 9)
    (hlink : (Cond.fieldLink own index ref (TX3 k).2.1 (TX3 k).2.2.1).before args s = true) (href : (TX3 k).1 = ref) (hfin : (TX3 k).2.2.2 = false) (hd : parseFieldDescriptor (TX3 k).2.2.1 = some .long) (hfk : ffk 3 k = 1) {v : Int} (hv : R32 v) (hdg : decode cc pc = .ok (.putfield index, 3))
    (kk : ∀ (H1 : Heap) (locs1 : List Loc), GS E (un σ (b + 64) k v) s H1 locs1 → W p l e R s m args below meth c H1 locs1 cells slots Q (F0 m (pc + 3) ls rest)) : W p l e R s m args below meth c H locs cells slots Q (F0 m pc ls (.long (lI v) :: va_rf r0 :: rest)) := by
  subst h0; exact q_nputl hexec hb hts hin hown hK hg hS k hk hlink href hfin hd hfk hv hdg kk
theorem q_nputr_o (h0 : r0 = some b) (hexec : p.tables.exec = Jvm.exec) (hb : c.code = cc) (hts : ∀ w ∈ Ts, w.before args s = true) (hin : ∀ w ∈ wsX30, w ∈ Ts) (hown : s.vm.findClass own = some m.cls) (hK : KK E s) (hg : GS E σ s H locs) (hS : sS σ b) (k : Nat) (hk : k < 9)
    (hlink : (Cond.fieldLink own index ref (TX3 k).2.1 (TX3 k).2.2.1).before args s = true) (href : (TX3 k).1 = ref) (hfin : (TX3 k).2.2.2 = false) (hd : parseFieldDescriptor (TX3 k).2.2.1 = some (.object "JoinMaps$Node")) (hfk : ffk 3 k = 2) {r : Option Nat} (hr : ∀ b, r = some b → sS σ b) (hdg : decode cc pc = .ok (.putfield index, 3))
    (kk : ∀ (H1 : Heap) (locs1 : List Loc), GS E (uf σ (b + 64) k r) s H1 locs1 → W p l e R s m args below meth c H1 locs1 cells slots Q (F0 m (pc + 3) ls rest)) : W p l e R s m args below meth c H locs cells slots Q (F0 m pc ls (va_rf r :: va_rf r0 :: rest)) := by
  subst h0; exact q_nputr hexec hb hts hin hown hK hg hS k hk hlink href hfin hd hfk hr hdg kk
theorem q_ishl {x y : Int} (hexec : p.tables.exec = Jvm.exec) (hb : c.code = cc) (h0 : 0 ≤ x) (h1 : 0 ≤ y ∧ y < 31) (h2 : x * 2 ^ y.toNat ≤ 2147483647) (hdg : decode cc pc = .ok (.ishl, 1)) (k : W p l e R s m args below meth c H locs cells slots Q (F0 m (pc + 1) ls (.int (iI (x * 2 ^ y.toNat)) :: rest))) : W p l e R s m args below meth c H locs cells slots Q (F0 m pc ls (.int (iI y) :: .int (iI x) :: rest)) := by
  obtain ⟨a, rfl⟩ : ∃ a : Nat, x = (a : Int) := ⟨x.toNat, by omega⟩
  obtain ⟨j, rfl⟩ : ∃ j : Nat, y = (j : Int) := ⟨y.toNat, by omega⟩
  refine lv_ishl hexec hb hdg ?_
  have e1 : ((a : Int) * 2 ^ ((j : Int)).toNat) = ((a * 2 ^ j : Nat) : Int) := by simp
  rw [e1] at h2 k
  rw [iI_nat] at k
  rw [iI_nat, iI_nat, pk_shlN _ j (sh_amt (by omega)) (by omega)]
  exact k
theorem q_ishr {x y : Int} (hexec : p.tables.exec = Jvm.exec) (hb : c.code = cc) (h0 : 0 ≤ x ∧ x ≤ 2147483647) (hdg : decode cc pc = .ok (.ishr, 1)) (k : W p l e R s m args below meth c H locs cells slots Q (F0 m (pc + 1) ls (.int (iI (x / 2 ^ y.toNat)) :: rest))) (h1 : 0 ≤ y ∧ y < 31 := by decide) : W p l e R s m args below meth c H locs cells slots Q (F0 m pc ls (.int (iI y) :: .int (iI x) :: rest)) := by
  obtain ⟨a, rfl⟩ : ∃ a : Nat, x = (a : Int) := ⟨x.toNat, by omega⟩
  obtain ⟨j, rfl⟩ : ∃ j : Nat, y = (j : Int) := ⟨y.toNat, by omega⟩
  refine lv_ishr hexec hb hdg ?_
  have e1 : ((a : Int) / 2 ^ ((j : Int)).toNat) = ((a / 2 ^ j : Nat) : Int) := by simp
  rw [e1, iI_nat] at k
  rw [iI_nat, iI_nat, pk_shrN (by omega) _ j (sh_amt (by omega))]
  exact k
theorem q_ior {x y : Int} (hexec : p.tables.exec = Jvm.exec) (hb : c.code = cc) (h0 : 0 ≤ x ∧ x ≤ 2147483647) (h1 : 0 ≤ y ∧ y ≤ 2147483647) (hdg : decode cc pc = .ok (.ior, 1)) (k : W p l e R s m args below meth c H locs cells slots Q (F0 m (pc + 1) ls (.int (iI ((x.toNat ||| y.toNat : Nat) : Int)) :: rest))) : W p l e R s m args below meth c H locs cells slots Q (F0 m pc ls (.int (iI y) :: .int (iI x) :: rest)) := by
  refine lv_ior hexec hb hdg ?_
  have ex : iI x = nI x.toNat := by rw [← iI_nat]; congr 1; omega
  have ey : iI y = nI y.toNat := by rw [← iI_nat]; congr 1; omega
  rw [ex, ey, fq_or, ← iI_nat]
  exact k
theorem q_iand {x y : Int} (hexec : p.tables.exec = Jvm.exec) (hb : c.code = cc) (h0 : 0 ≤ x ∧ x ≤ 2147483647) (h1 : 0 ≤ y ∧ y ≤ 2147483647) (hdg : decode cc pc = .ok (.iand, 1)) (k : W p l e R s m args below meth c H locs cells slots Q (F0 m (pc + 1) ls (.int (iI ((x.toNat &&& y.toNat : Nat) : Int)) :: rest))) : W p l e R s m args below meth c H locs cells slots Q (F0 m pc ls (.int (iI y) :: .int (iI x) :: rest)) := by
  refine lv_iand hexec hb hdg ?_
  have ex : iI x = nI x.toNat := by rw [← iI_nat]; congr 1; omega
  have ey : iI y = nI y.toNat := by rw [← iI_nat]; congr 1; omega
  rw [ex, ey, fq_and, ← iI_nat]
  exact k
theorem l_eq {x y : Int} {off : Int} {tgt : Nat} (hexec : p.tables.exec = Jvm.exec) (hb : c.code = cc) (hd1 : decode cc pc = .ok (.lcmp, 1)) (hd2 : decode cc (pc + 1) = .ok (.ifCond .eq off, 3)) (ht : ((pc + 1 : Nat) : Int) + off = (tgt : Int)) (hx : R64 x) (hy : R64 y) (kt : x = y → W p l e R s m args below meth c H locs cells slots Q (F0 m tgt ls rest)) (kf : ¬ x = y → W p l e R s m args below meth c H locs cells slots Q (F0 m (pc + 1 + 3) ls rest)) : W p l e R s m args below meth c H locs cells slots Q (F0 m pc ls (.long (lI y) :: .long (lI x) :: rest)) := by
  refine q_lcmp hexec hb hx hy hd1 (k_eq hexec hb hd2 ht lcmp_R (fun h => kt ?_) (fun h => kf ?_))
  · split at h <;> first | omega | (split at h <;> omega)
  · split at h <;> first | omega | (split at h <;> omega)
theorem l_ne {x y : Int} {off : Int} {tgt : Nat} (hexec : p.tables.exec = Jvm.exec) (hb : c.code = cc) (hd1 : decode cc pc = .ok (.lcmp, 1)) (hd2 : decode cc (pc + 1) = .ok (.ifCond .ne off, 3)) (ht : ((pc + 1 : Nat) : Int) + off = (tgt : Int)) (hx : R64 x) (hy : R64 y) (kt : ¬ x = y → W p l e R s m args below meth c H locs cells slots Q (F0 m tgt ls rest)) (kf : x = y → W p l e R s m args below meth c H locs cells slots Q (F0 m (pc + 1 + 3) ls rest)) : W p l e R s m args below meth c H locs cells slots Q (F0 m pc ls (.long (lI y) :: .long (lI x) :: rest)) := by
  refine q_lcmp hexec hb hx hy hd1 (k_ne hexec hb hd2 ht lcmp_R (fun h => kt ?_) (fun h => kf ?_))
  · split at h <;> first | omega | (split at h <;> omega)
  · split at h <;> first | omega | (split at h <;> omega)
theorem l_lt {x y : Int} {off : Int} {tgt : Nat} (hexec : p.tables.exec = Jvm.exec) (hb : c.code = cc) (hd1 : decode cc pc = .ok (.lcmp, 1)) (hd2 : decode cc (pc + 1) = .ok (.ifCond .lt off, 3)) (ht : ((pc + 1 : Nat) : Int) + off = (tgt : Int)) (hx : R64 x) (hy : R64 y) (kt : x < y → W p l e R s m args below meth c H locs cells slots Q (F0 m tgt ls rest)) (kf : ¬ x < y → W p l e R s m args below meth c H locs cells slots Q (F0 m (pc + 1 + 3) ls rest)) : W p l e R s m args below meth c H locs cells slots Q (F0 m pc ls (.long (lI y) :: .long (lI x) :: rest)) := by
  refine q_lcmp hexec hb hx hy hd1 (k_lt hexec hb hd2 ht lcmp_R (fun h => kt ?_) (fun h => kf ?_))
  · split at h <;> first | omega | (split at h <;> omega)
  · split at h <;> first | omega | (split at h <;> omega)
theorem l_ge {x y : Int} {off : Int} {tgt : Nat} (hexec : p.tables.exec = Jvm.exec) (hb : c.code = cc) (hd1 : decode cc pc = .ok (.lcmp, 1)) (hd2 : decode cc (pc + 1) = .ok (.ifCond .ge off, 3)) (ht : ((pc + 1 : Nat) : Int) + off = (tgt : Int)) (hx : R64 x) (hy : R64 y) (kt : y ≤ x → W p l e R s m args below meth c H locs cells slots Q (F0 m tgt ls rest)) (kf : ¬ y ≤ x → W p l e R s m args below meth c H locs cells slots Q (F0 m (pc + 1 + 3) ls rest)) : W p l e R s m args below meth c H locs cells slots Q (F0 m pc ls (.long (lI y) :: .long (lI x) :: rest)) := by
  refine q_lcmp hexec hb hx hy hd1 (k_ge hexec hb hd2 ht lcmp_R (fun h => kt ?_) (fun h => kf ?_))
  · split at h <;> first | omega | (split at h <;> omega)
  · split at h <;> first | omega | (split at h <;> omega)
theorem l_gt {x y : Int} {off : Int} {tgt : Nat} (hexec : p.tables.exec = Jvm.exec) (hb : c.code = cc) (hd1 : decode cc pc = .ok (.lcmp, 1)) (hd2 : decode cc (pc + 1) = .ok (.ifCond .gt off, 3)) (ht : ((pc + 1 : Nat) : Int) + off = (tgt : Int)) (hx : R64 x) (hy : R64 y) (kt : y < x → W p l e R s m args below meth c H locs cells slots Q (F0 m tgt ls rest)) (kf : ¬ y < x → W p l e R s m args below meth c H locs cells slots Q (F0 m (pc + 1 + 3) ls rest)) : W p l e R s m args below meth c H locs cells slots Q (F0 m pc ls (.long (lI y) :: .long (lI x) :: rest)) := by
  refine q_lcmp hexec hb hx hy hd1 (k_gt hexec hb hd2 ht lcmp_R (fun h => kt ?_) (fun h => kf ?_))
  · split at h <;> first | omega | (split at h <;> omega)
  · split at h <;> first | omega | (split at h <;> omega)
theorem l_le {x y : Int} {off : Int} {tgt : Nat} (hexec : p.tables.exec = Jvm.exec) (hb : c.code = cc) (hd1 : decode cc pc = .ok (.lcmp, 1)) (hd2 : decode cc (pc + 1) = .ok (.ifCond .le off, 3)) (ht : ((pc + 1 : Nat) : Int) + off = (tgt : Int)) (hx : R64 x) (hy : R64 y) (kt : x ≤ y → W p l e R s m args below meth c H locs cells slots Q (F0 m tgt ls rest)) (kf : ¬ x ≤ y → W p l e R s m args below meth c H locs cells slots Q (F0 m (pc + 1 + 3) ls rest)) : W p l e R s m args below meth c H locs cells slots Q (F0 m pc ls (.long (lI y) :: .long (lI x) :: rest)) := by
  refine q_lcmp hexec hb hx hy hd1 (k_le hexec hb hd2 ht lcmp_R (fun h => kt ?_) (fun h => kf ?_))
  · split at h <;> first | omega | (split at h <;> omega)
  · split at h <;> first | omega | (split at h <;> omega)
end
set_option maxRecDepth 100000 in
set_option maxHeartbeats 4000000 in
/-- Node(): nothing changes -/
theorem ctX3_init (l : Launch) (E : Ev) (b : Nat) (σ : SS) : Met l yX3_init wsX3_init ({ frames := 1, cells := 0, slots := 0, locals := 12 } : Room) (Pc E σ [.ref b]) (Qv E (sz σ) σ (fun u => u = σ)) 0 0 (Av E) := by
  refine Met.ofW (cc := cX3_init) (maxL := 1) (ret := none) (by decide) rfl ?_
  intro p e s m args below meth c s₁ B hml hv
  obtain ⟨rfl, hH, hK, hN⟩ := hv
  have hx := B.exec
  have hb := B.bytes
  have hr := B.returns
  have hts := atoms_spec (ws := wsX3_init) B.pre
  have hown : s.vm.findClass RX3 = some m.cls := findClass_of_methodNamed B.named
  have hlocks := B.notSynchronized
  have hg : GS E σ s s.heap [] := ⟨hH, va_S.rf⟩
  have hm : Mo (sz σ) σ σ := Mo.rf (Nat.le_refl _)
  have hl := ent (vs := [.ref b]) (n := 1) (cats_x cats_nil) (Nat.le_of_ble_eq_true rfl)
  rw [lg_entry_eq]
  generalize (lg_sl ([.ref b]) ++ List.replicate (1 - (lg_sl ([.ref b])).length) Slot.unset).toArray = ls at hl ⊢
  have hl : lv_has ls 1 [(0, .ref b)] := hl
  refine lv_aload_n hx hb dX3_init_0 rfl (lv_at hl 0 rfl) ?_
  refine W.objInit hx hb hown (hts (.methodLink RX3 3 objectInit) (by decide +kernel)) (hts (.instanceMethod objectInit) (by decide +kernel)) (hts _ (List.mem_cons_of_mem _ ((List.mem_of_getElem? (i := 2) rfl)))) rfl (by rw [hml]; exact hl.1) rfl dX3_init_1 (Nat.le_of_ble_eq_true rfl) (Nat.le_of_ble_eq_true rfl) ?_
  refine W.eq (g2 := F0 m 4 ls []) rfl ?_
  exact ret_v hx hb hr hlocks hg hm rfl dX3_init_4
