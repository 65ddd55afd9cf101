/-! ===== constants, locals, arithmetic over the state's numbers ===== -/
theorem rf_cat (r : Option Nat) : (va_rf r).category = 1 := by cases r <;> rfl
theorem cat_le2 (v : Value) : v.category ≤ 2 := by cases v <;> simp [Value.category]
theorem cat_sum (rest : List Value) (h : rest.length ≤ 4) : (rest.map fun v => v.category).sum ≤ 8 := by
  have key : ∀ l : List Value, (l.map fun v => v.category).sum ≤ 2 * l.length := by
    intro l
    induction l with
    | nil => exact Nat.le_refl _
    | cons a l ih =>
      rw [List.map_cons, List.sum_cons, List.length_cons]
      have := cat_le2 a
      omega
  have := key rest
  omega
def lv_args1 : Nat → List Value → List (Nat × Value)
  | _, [] => []
  | i, v :: vs => (i, v) :: lv_args1 (i + 1) vs
theorem lv_args_1 : ∀ (vs : List Value) (i : Nat), (∀ v ∈ vs, v.category = 1) → lv_args i vs = lv_args1 i vs
  | [], _, _ => rfl
  | v :: vs, i, h => by
    have hv := h v List.mem_cons_self
    rw [lv_args, lv_args1, if_neg (by rw [hv]; decide), lv_args_1 vs (i + 1) (fun w hw => h w (List.mem_cons_of_mem _ hw))]
theorem lg_sl_1 : ∀ (vs : List Value), (∀ v ∈ vs, v.category = 1) → (lg_sl vs).length = vs.length
  | [], _ => rfl
  | v :: vs, h => by
    have hv := h v List.mem_cons_self
    have ih := lg_sl_1 vs (fun w hw => h w (List.mem_cons_of_mem _ hw))
    unfold lg_sl at ih ⊢
    rw [List.flatMap_cons, if_neg (by rw [hv]; decide), List.length_append, ih, List.length_cons]
    simp [Nat.add_comm]
theorem ent {vs : List Value} {n : Nat} (h1 : ∀ v ∈ vs, v.category = 1) (h : vs.length ≤ n) : lv_has ((lg_sl vs ++ List.replicate (n - (lg_sl vs).length) Slot.unset).toArray) n (lv_args1 0 vs) := by
  have := lv_entry vs (n := n) (by rw [lg_sl_1 vs h1]; exact h)
  rwa [lv_args_1 vs 0 h1] at this
theorem cats_nil : ∀ v ∈ ([] : List Value), v.category = 1 := fun v h => by cases h
theorem cats_i {z : Int32} {l : List Value} (h : ∀ v ∈ l, v.category = 1) : ∀ v ∈ (Value.int z :: l), v.category = 1 := fun v hv => by
  rcases List.mem_cons.mp hv with rfl | q
  · rfl
  · exact h v q
theorem cats_x {a : Nat} {l : List Value} (h : ∀ v ∈ l, v.category = 1) : ∀ v ∈ (Value.ref a :: l), v.category = 1 := fun v hv => by
  rcases List.mem_cons.mp hv with rfl | q
  · rfl
  · exact h v q
theorem cats_r {r : Option Nat} {l : List Value} (h : ∀ v ∈ l, v.category = 1) : ∀ v ∈ (va_rf r :: l), v.category = 1 := fun v hv => by
  rcases List.mem_cons.mp hv with rfl | q
  · exact rf_cat r
  · exact h v q
section
variable {p : Program} {l : Launch} {e : Env} {R : Room} {s : State} {m : MethodId} {args : Array Value} {below : List Frame} {meth : Method} {c : Code} {H : Heap} {locs : List Loc} {cells slots : Nat} {Q : State → Prop}
variable {cc : ByteArray} {pc : Nat} {ls : Array Slot} {rest : List Value} {own : String} {index : Nat}
theorem q_ldc {v : Int32} {z : Int} (hexec : p.tables.exec = Jvm.exec) (hb : c.code = cc) (hown : s.vm.findClass own = some m.cls) (hconst : (Jvm.Cond.constant own index v).before args s = true) (hv : v = iI z) (hdg : decode cc pc = .ok (.ldc index, 2)) (k : W p l e R s m args below meth c H locs cells slots Q (F0 m (pc + 2) ls (.int (iI z) :: rest))) : W p l e R s m args below meth c H locs cells slots Q (F0 m pc ls rest) := by
  subst hv; exact lv_ldc hexec hb hown hconst hdg k
theorem q_ldcw {v : Int32} {z : Int} (hexec : p.tables.exec = Jvm.exec) (hb : c.code = cc) (hown : s.vm.findClass own = some m.cls) (hconst : (Jvm.Cond.constant own index v).before args s = true) (hv : v = iI z) (hdg : decode cc pc = .ok (.ldc_w index, 3)) (k : W p l e R s m args below meth c H locs cells slots Q (F0 m (pc + 3) ls (.int (iI z) :: rest))) : W p l e R s m args below meth c H locs cells slots Q (F0 m pc ls rest) := by
  subst hv; exact lv_ldcw hexec hb hown hconst hdg k
theorem q_ldc2 {v : Int64} {z : Int} (hexec : p.tables.exec = Jvm.exec) (hb : c.code = cc) (hown : s.vm.findClass own = some m.cls) (hconst : (Jvm.Cond.constantLong own index v).before args s = true) (hv : v = lI z) (hdg : decode cc pc = .ok (.ldc2_w index, 3)) (k : W p l e R s m args below meth c H locs cells slots Q (F0 m (pc + 3) ls (.long (lI z) :: rest))) : W p l e R s m args below meth c H locs cells slots Q (F0 m pc ls rest) := by
  subst hv; exact lv_ldc2 hexec hb hown hconst hdg k
theorem q_null (hexec : p.tables.exec = Jvm.exec) (hb : c.code = cc) (hdg : decode cc pc = .ok (.aconst_null, 1)) (k : W p l e R s m args below meth c H locs cells slots Q (F0 m (pc + 1) ls (va_rf none :: rest))) : W p l e R s m args below meth c H locs cells slots Q (F0 m pc ls rest) := lv_null hexec hb hdg k
theorem q_aload_n {k : Fin 4} {i : Nat} {r : Option Nat} (hexec : p.tables.exec = Jvm.exec) (hb : c.code = cc) (hdg : decode cc pc = .ok (.aload_n k, 1)) (hi : (k : Nat) = i) (hl : ls[i]? = some (.val (va_rf r))) (kk : W p l e R s m args below meth c H locs cells slots Q (F0 m (pc + 1) ls (va_rf r :: rest))) : W p l e R s m args below meth c H locs cells slots Q (F0 m pc ls rest) := by
  cases r with
  | none => exact lv_aload_nN hexec hb hdg hi hl kk
  | some b => exact lv_aload_n hexec hb hdg hi hl kk
theorem q_aload {i : Nat} {r : Option Nat} (hexec : p.tables.exec = Jvm.exec) (hb : c.code = cc) (hdg : decode cc pc = .ok (.aload i, 2)) (hl : ls[i]? = some (.val (va_rf r))) (kk : W p l e R s m args below meth c H locs cells slots Q (F0 m (pc + 2) ls (va_rf r :: rest))) : W p l e R s m args below meth c H locs cells slots Q (F0 m pc ls rest) := by
  cases r with
  | none => exact lv_aloadN hexec hb hdg hl kk
  | some b => exact lv_aload hexec hb hdg hl kk
theorem q_astore_n {k : Fin 4} {i nL : Nat} {r : Option Nat} {lv lv' : List (Nat × Value)} (hexec : p.tables.exec = Jvm.exec) (hb : c.code = cc) (hdg : decode cc pc = .ok (.astore_n k, 1)) (hi : (k : Nat) = i) (h : lv_has ls nL lv) (hn : i < nL) (hl : (i, va_rf r) :: lv.filter (fun q => !(q.1 == i) && !(q.1 + 1 == i && q.2.category == 2)) = lv')
    (kk : ∀ ls' : Array Slot, lv_has ls' nL lv' → W p l e R s m args below meth c H locs cells slots Q (F0 m (pc + 1) ls' rest)) : W p l e R s m args below meth c H locs cells slots Q (F0 m pc ls (va_rf r :: rest)) := by
  cases r with
  | none => exact lv_astore_nN hexec hb hdg hi h hn hl kk
  | some b => exact lv_astore_n hexec hb hdg hi h hn hl kk
theorem q_astore {i nL : Nat} {r : Option Nat} {lv lv' : List (Nat × Value)} (hexec : p.tables.exec = Jvm.exec) (hb : c.code = cc) (hdg : decode cc pc = .ok (.astore i, 2)) (h : lv_has ls nL lv) (hn : i < nL) (hl : (i, va_rf r) :: lv.filter (fun q => !(q.1 == i) && !(q.1 + 1 == i && q.2.category == 2)) = lv')
    (kk : ∀ ls' : Array Slot, lv_has ls' nL lv' → W p l e R s m args below meth c H locs cells slots Q (F0 m (pc + 2) ls' rest)) : W p l e R s m args below meth c H locs cells slots Q (F0 m pc ls (va_rf r :: rest)) := by
  cases r with
  | none => exact lv_astoreN hexec hb hdg h hn hl kk
  | some b => exact lv_astore hexec hb hdg h hn hl kk
theorem q_iadd {x y : Int} (hexec : p.tables.exec = Jvm.exec) (hb : c.code = cc) (hdg : decode cc pc = .ok (.iadd, 1)) (k : W p l e R s m args below meth c H locs cells slots Q (F0 m (pc + 1) ls (.int (iI (x + y)) :: rest))) : W p l e R s m args below meth c H locs cells slots Q (F0 m pc ls (.int (iI y) :: .int (iI x) :: rest)) := lv_iadd hexec hb hdg (by rw [iI_add]; exact k)
theorem q_isub {x y : Int} (hexec : p.tables.exec = Jvm.exec) (hb : c.code = cc) (hdg : decode cc pc = .ok (.isub, 1)) (k : W p l e R s m args below meth c H locs cells slots Q (F0 m (pc + 1) ls (.int (iI (x - y)) :: rest))) : W p l e R s m args below meth c H locs cells slots Q (F0 m pc ls (.int (iI y) :: .int (iI x) :: rest)) := lv_isub hexec hb hdg (by rw [iI_sub]; exact k)
theorem q_imul {x y : Int} (hexec : p.tables.exec = Jvm.exec) (hb : c.code = cc) (hdg : decode cc pc = .ok (.imul, 1)) (k : W p l e R s m args below meth c H locs cells slots Q (F0 m (pc + 1) ls (.int (iI (x * y)) :: rest))) : W p l e R s m args below meth c H locs cells slots Q (F0 m pc ls (.int (iI y) :: .int (iI x) :: rest)) := lv_imul hexec hb hdg (by rw [iI_mul]; exact k)
theorem q_ineg {x : Int} (hexec : p.tables.exec = Jvm.exec) (hb : c.code = cc) (hdg : decode cc pc = .ok (.ineg, 1)) (k : W p l e R s m args below meth c H locs cells slots Q (F0 m (pc + 1) ls (.int (iI (-x)) :: rest))) : W p l e R s m args below meth c H locs cells slots Q (F0 m pc ls (.int (iI x) :: rest)) := lv_ineg hexec hb hdg (by rw [iI_neg]; exact k)
theorem q_idiv {x y : Int} (hexec : p.tables.exec = Jvm.exec) (hb : c.code = cc) (hx : R32 x) (hy : R32 y) (h0 : 0 < y) (hdg : decode cc pc = .ok (.idiv, 1)) (k : W p l e R s m args below meth c H locs cells slots Q (F0 m (pc + 1) ls (.int (iI (Int.tdiv x y)) :: rest))) : W p l e R s m args below meth c H locs cells slots Q (F0 m pc ls (.int (iI y) :: .int (iI x) :: rest)) := lv_idiv hexec hb hdg (iI_ne0 hy (by omega)) (by rw [iI_div hx hy h0]; exact k)
theorem q_irem {x y : Int} (hexec : p.tables.exec = Jvm.exec) (hb : c.code = cc) (hx : R32 x) (hy : R32 y) (h0 : 0 < y) (hdg : decode cc pc = .ok (.irem, 1)) (k : W p l e R s m args below meth c H locs cells slots Q (F0 m (pc + 1) ls (.int (iI (Int.tmod x y)) :: rest))) : W p l e R s m args below meth c H locs cells slots Q (F0 m pc ls (.int (iI y) :: .int (iI x) :: rest)) := lv_irem hexec hb hdg (iI_ne0 hy (by omega)) (by rw [iI_rem hx hy h0]; exact k)
theorem q_ladd {x y : Int} (hexec : p.tables.exec = Jvm.exec) (hb : c.code = cc) (hdg : decode cc pc = .ok (.ladd, 1)) (k : W p l e R s m args below meth c H locs cells slots Q (F0 m (pc + 1) ls (.long (lI (x + y)) :: rest))) : W p l e R s m args below meth c H locs cells slots Q (F0 m pc ls (.long (lI y) :: .long (lI x) :: rest)) := lv_ladd hexec hb hdg (by rw [lI_add]; exact k)
theorem q_lsub {x y : Int} (hexec : p.tables.exec = Jvm.exec) (hb : c.code = cc) (hdg : decode cc pc = .ok (.lsub, 1)) (k : W p l e R s m args below meth c H locs cells slots Q (F0 m (pc + 1) ls (.long (lI (x - y)) :: rest))) : W p l e R s m args below meth c H locs cells slots Q (F0 m pc ls (.long (lI y) :: .long (lI x) :: rest)) := lv_lsub hexec hb hdg (by rw [lI_sub]; exact k)
theorem q_lmul {x y : Int} (hexec : p.tables.exec = Jvm.exec) (hb : c.code = cc) (hdg : decode cc pc = .ok (.lmul, 1)) (k : W p l e R s m args below meth c H locs cells slots Q (F0 m (pc + 1) ls (.long (lI (x * y)) :: rest))) : W p l e R s m args below meth c H locs cells slots Q (F0 m pc ls (.long (lI y) :: .long (lI x) :: rest)) := lv_lmul hexec hb hdg (by rw [lI_mul]; exact k)
theorem q_ldiv {x y : Int} (hexec : p.tables.exec = Jvm.exec) (hb : c.code = cc) (hx : R64 x) (h1 : 0 ≤ x) (hy : R64 y) (h0 : 0 < y) (hdg : decode cc pc = .ok (.ldiv, 1)) (k : W p l e R s m args below meth c H locs cells slots Q (F0 m (pc + 1) ls (.long (lI (x / y)) :: rest))) : W p l e R s m args below meth c H locs cells slots Q (F0 m pc ls (.long (lI y) :: .long (lI x) :: rest)) := lv_ldiv hexec hb hdg (lI_ne0 hy (by omega)) (by rw [lI_div hx hy h1 h0]; exact k)
theorem q_lrem {x y : Int} (hexec : p.tables.exec = Jvm.exec) (hb : c.code = cc) (hx : R64 x) (h1 : 0 ≤ x) (hy : R64 y) (h0 : 0 < y) (hdg : decode cc pc = .ok (.lrem, 1)) (k : W p l e R s m args below meth c H locs cells slots Q (F0 m (pc + 1) ls (.long (lI (x % y)) :: rest))) : W p l e R s m args below meth c H locs cells slots Q (F0 m pc ls (.long (lI y) :: .long (lI x) :: rest)) := lv_lrem hexec hb hdg (lI_ne0 hy (by omega)) (by rw [lI_rem hx hy h1 h0]; exact k)
theorem q_i2l {x : Int} (hexec : p.tables.exec = Jvm.exec) (hb : c.code = cc) (hx : R32 x) (hdg : decode cc pc = .ok (.i2l, 1)) (k : W p l e R s m args below meth c H locs cells slots Q (F0 m (pc + 1) ls (.long (lI x) :: rest))) : W p l e R s m args below meth c H locs cells slots Q (F0 m pc ls (.int (iI x) :: rest)) := lv_i2l hexec hb hdg (iI_long hx) k
theorem q_l2i {x : Int} (hexec : p.tables.exec = Jvm.exec) (hb : c.code = cc) (hdg : decode cc pc = .ok (.l2i, 1)) (k : W p l e R s m args below meth c H locs cells slots Q (F0 m (pc + 1) ls (.int (iI x) :: rest))) : W p l e R s m args below meth c H locs cells slots Q (F0 m pc ls (.long (lI x) :: rest)) := lv_l2i hexec hb hdg (lI_short x) k
theorem q_i2b {x : Int} (hexec : p.tables.exec = Jvm.exec) (hb : c.code = cc) (hx : 0 ≤ x ∧ x ≤ 127) (hdg : decode cc pc = .ok (.i2b, 1)) (k : W p l e R s m args below meth c H locs cells slots Q (F0 m (pc + 1) ls (.int (iI x) :: rest))) : W p l e R s m args below meth c H locs cells slots Q (F0 m pc ls (.int (iI x) :: rest)) := lv_i2b hexec hb hdg (iI_byte hx) k
theorem R64_of {x : Int} (h : R32 x) : R64 x := ⟨by omega, by omega⟩
theorem lcmp_eq {x y : Int} (hx : R64 x) (hy : R64 y) : lg_cmp (lI x) (lI y) = iI (if y < x then 1 else if x = y then 0 else -1) := by
  unfold lg_cmp
  have h1 := lI_lt hy hx
  have h2 := lI_eq hx hy
  by_cases a : y < x
  · rw [if_pos (h1.mpr a), if_pos a]; rfl
  · rw [if_neg (fun q => a (h1.mp q)), if_neg a]
    by_cases b : x = y
    · rw [if_pos (h2.mpr b), if_pos b]; rfl
    · rw [if_neg (fun q => b (h2.mp q)), if_neg b]; rfl
theorem lcmp_R {x y : Int} : R32 (if y < x then 1 else if x = y then 0 else -1 : Int) := by
  split
  · decide
  · split <;> decide
theorem q_lcmp {x y : Int} (hexec : p.tables.exec = Jvm.exec) (hb : c.code = cc) (hx : R64 x) (hy : R64 y) (hdg : decode cc pc = .ok (.lcmp, 1)) (k : W p l e R s m args below meth c H locs cells slots Q (F0 m (pc + 1) ls (.int (iI (if y < x then 1 else if x = y then 0 else -1)) :: rest))) : W p l e R s m args below meth c H locs cells slots Q (F0 m pc ls (.long (lI y) :: .long (lI x) :: rest)) := W.lcmp hexec hb hdg (by rw [lcmp_eq hx hy]; exact k)
theorem q_min {x y : Int} (hexec : p.tables.exec = Jvm.exec) (hb : c.code = cc) (hml : c.maxLocals = ls.size) (hown : s.vm.findClass own = some m.cls) (hlink : (Cond.methodLink own index Lib.Math.min.name).before args s = true) (hstat : (Cond.static Lib.Math.min.name).before args s = true) (hini : (Cond.initialized "java/lang/Math").before args s = true) (hcode : (Cond.code Lib.Math.min.name Lib.Math.min.code 2 (some .int)).before args s = true)
    (hframes : 1 ≤ R.frames) (hrest : rest.length ≤ 4) (hlocals : 21 ≤ R.locals) (hc : cells ≤ R.cells) (hs : slots ≤ R.slots) (hx : R32 x) (hy : R32 y) (hdg : decode cc pc = .ok (.invokestatic index, 3)) (kk : W p l e R s m args below meth c H locs cells slots Q (F0 m (pc + 3) ls (.int (iI (min x y)) :: rest))) : W p l e R s m args below meth c H locs cells slots Q (F0 m pc ls (.int (iI y) :: .int (iI x) :: rest)) := by
  refine va_mmin hexec hb hml hown hlink hstat hini hcode hframes (by have := cat_sum rest hrest; omega) hc hs hdg ?_
  have h := iI_lt hy hx
  by_cases a : y < x
  · rw [if_pos (h.mpr a)]
    rw [show min x y = y by omega] at kk
    exact kk
  · rw [if_neg (fun q => a (h.mp q))]
    rw [show min x y = x by omega] at kk
    exact kk
theorem q_max {x y : Int} (hexec : p.tables.exec = Jvm.exec) (hb : c.code = cc) (hml : c.maxLocals = ls.size) (hown : s.vm.findClass own = some m.cls) (hlink : (Cond.methodLink own index Lib.Math.max.name).before args s = true) (hstat : (Cond.static Lib.Math.max.name).before args s = true) (hini : (Cond.initialized "java/lang/Math").before args s = true) (hcode : (Cond.code Lib.Math.max.name Lib.Math.max.code 2 (some .int)).before args s = true)
    (hframes : 1 ≤ R.frames) (hrest : rest.length ≤ 4) (hlocals : 21 ≤ R.locals) (hc : cells ≤ R.cells) (hs : slots ≤ R.slots) (hx : R32 x) (hy : R32 y) (hdg : decode cc pc = .ok (.invokestatic index, 3)) (kk : W p l e R s m args below meth c H locs cells slots Q (F0 m (pc + 3) ls (.int (iI (max x y)) :: rest))) : W p l e R s m args below meth c H locs cells slots Q (F0 m pc ls (.int (iI y) :: .int (iI x) :: rest)) := by
  refine va_mmax hexec hb hml hown hlink hstat hini hcode hframes (by have := cat_sum rest hrest; omega) hc hs hdg ?_
  have h := iI_lt hx hy
  by_cases a : x < y
  · rw [if_pos (h.mpr a)]
    rw [show max x y = y by omega] at kk
    exact kk
  · rw [if_neg (fun q => a (h.mp q))]
    rw [show max x y = x by omega] at kk
    exact kk
end
