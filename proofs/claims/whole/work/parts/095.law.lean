def R_law : String := "JoinMapsLaw"
def lw_P (b : Addr) (xs : List Int32) (args : Array Value) (s : State) : Prop := args = #[.ref b] ∧ s.IntsAt b xs ∧ xs.length ≤ 2560 ∧ (Jvm.Cond.and given_1 narrow_1).before args s = true
def lw_Q (_ : Array Value) (s : State) (o : Outcome) (t : State) : Prop := o = .returned (some (.int 1)) ∧ Framed s o t [] 600000 7302250
def lw_Z (below : List Frame) (a : Array Value) (s : State) : State → Prop := fun t => ∃ o, t.status = .running ∧ Ended t below o ∧ lw_Q a s o t
/-- the law's own end, with 1 on the stack, nothing written that was there before, its room as the claim has it -/
theorem lw_ret {p : Program} {l : Launch} {e : Env} {s : State} {m : MethodId} {below : List Frame} {meth : Method} {c : Code} {b : Nat} (hx : p.tables.exec = Jvm.exec) (hb : c.code = code) (hr : meth.sig.returnType = ret) (hlocks : meth.locks = false) {pc : Nat} {H : Heap} {ls : Array Slot} (hdg : decode code pc = .ok (.ireturn, 1)) : W p l e room_1 s m #[Value.ref b] below meth c H [] 600000 7302250 (lw_Z below #[Value.ref b] s) (F0 m pc ls [.int 1]) := by
  intro T hT X
  obtain ⟨fs, hret, hrun, hended, hW, hframe⟩ := X.leave (v := some (.int 1)) (hlocks := hlocks) (fun h => by rw [hr] at h; cases h)
  have hmeth' : T.vm.method? m = some meth := X.method'
  refine ⟨T.setFrames fs, ?_, .returned (some (.int 1)), hrun, hended, rfl, ⟨_, rfl⟩, hW, hframe⟩
  jvm_step X.here [X.here.top, hx, hb, hdg, hmeth', hr, ret, narrow_b1]
  (try refine ⟨rfl, ?_⟩); (try refine ⟨rfl, ?_⟩)
  first | (intro acts; rw [hret _ acts rfl rfl rfl]) | rw [hret _ _ rfl rfl rfl]
  exact Steps.refl _
/-- what holds at the law's entry: the machine, the code, the tables' words (any of lw_tbl by 'hts w (by decide +kernel)'), the script of L ints xs at the cell b, what the Statement gives of the start (any of its parts by flat_of_before) -/
def lw_At (p : Program) (s : State) (m : MethodId) (meth : Method) (c : Code) (b L : Nat) (xs : Nat → Int32) : Prop :=
  p.tables.exec = Jvm.exec ∧ c.code = code ∧ meth.sig.returnType = ret ∧ c.maxLocals = 4 ∧ s.vm.findClass R_law = some m.cls ∧ (∀ w ∈ lw_tbl, w.before #[Value.ref b] s = true) ∧ va_X b L xs s s.heap ∧ b < s.heap.size ∧ meth.locks = false ∧ (Jvm.Cond.and given_1 narrow_1).before #[Value.ref b] s = true
/-! ===== the law: what holds between its calls ===== -/
def tpE (E : Ev) : Nat := ez E + 581600
theorem hBE (E : Ev) : BT (ez E) (tpE E) 500000 := ⟨by decide, by unfold tpE; show ez E + 81600 + 500000 ≤ ez E + 581600; omega⟩
abbrev lvL (E : Ev) (b i : Nat) : List (Nat × Value) := [(0, .ref b), (1, .ref (ea E 0)), (2, .ref (ea E 21)), (3, .int (iI (i : Int)))]
def LX (p : Program) (s : State) (m : MethodId) (meth : Method) (c : Code) (b L : Nat) (xs : Nat → Int32) (E : Ev) : Prop := p.tables.exec = Jvm.exec ∧ c.code = cL_law ∧ meth.sig.returnType = ret ∧ c.maxLocals = 4 ∧ s.vm.findClass RL = some m.cls ∧ (∀ w ∈ wsL_law, w.before #[Value.ref b] s = true) ∧ va_X b L xs s s.heap ∧ b < s.heap.size ∧ meth.locks = false ∧ L ≤ 2560 ∧ KK E s ∧ KN s ∧ e0 E = s.heap.size ∧ es E ≤ sOf s.heap + 19543 ∧ ez E ≤ s.heap.size + 39 ∧ s.heap.size ≤ ez E
/-- on from a call's end -/
def LK (p : Program) (l : Launch) (e : Env) (s : State) (m : MethodId) (below : List Frame) (meth : Method) (c : Code) (b : Nat) (E : Ev) (n : Nat) (ls : Array Slot) : Prop := ∀ (σ' : SS) (H : Heap) (locs : List Loc), GS E σ' s H locs → sz σ' ≤ tpE E → LPz (ez E) (n + 1) σ' → W p l e room_1 s m #[Value.ref b] below meth c H locs (39 + (sz σ' - ez E)) (19543 + 9 * (sz σ' - ez E)) (lw_Z below #[Value.ref b] s) (F0 m 1395 ls [])
section
variable {p : Program} {l : Launch} {e : Env} {R : Room} {s : State} {m : MethodId} {args : Array Value} {below : List Frame} {meth : Method} {c : Code} {H : Heap} {locs : List Loc} {cells slots : Nat} {Q : State → Prop} {E : Ev} {σ : SS}
variable {cc : ByteArray} {pc : Nat} {ls : Array Slot} {rest : List Value}
theorem W_used {g : JFrame} (kk : sOf H ≤ sOf s.heap + slots → H.size ≤ s.heap.size + cells → s.heap.size ≤ H.size → W p l e R s m args below meth c H locs cells slots Q g) : W p l e R s m args below meth c H locs cells slots Q g := by
  intro T hT X
  have hbook := X.book
  have hroom := X.room
  obtain ⟨-, a2, a3, a4, a5, -⟩ := X.same
  have hs : s.slotsUsed = sOf s.heap := by
    simp only [State.hasRoom, Bool.and_eq_true] at hroom
    have h2 : s.slotsTrue = true := hroom.2
    unfold State.slotsTrue at h2
    rw [sOf_fold] at h2
    exact eq_of_beq h2
  have ht : T.slotsUsed = sOf H := by
    unfold State.slotsTrue at hbook
    rw [sOf_fold, hT] at hbook
    exact eq_of_beq hbook
  have hT2 : (T.setVm s.vm).heap = H := hT
  have hu2 : (T.setVm s.vm).slotsUsed = T.slotsUsed := rfl
  rw [hT2] at a2 a3
  rw [hu2, ht, hs] at a4
  exact kk (by omega) a3 a2 T hT X
theorem W_narrowL {g : JFrame} (hg : GS E σ s H locs) (hes : es E ≤ sOf s.heap + 19543) (hez : ez E ≤ s.heap.size + 39) (hez0 : s.heap.size ≤ ez E) (kk : W p l e R s m args below meth c H locs (39 + (sz σ - ez E)) (19543 + 9 * (sz σ - ez E)) Q g) : W p l e R s m args below meth c H locs cells slots Q g := by
  intro T hT X
  refine kk T hT { X with same := ?_ }
  have hbook := X.book
  have hroom := X.room
  obtain ⟨a1, a2, a3, a4, a5, a6⟩ := X.same
  have hs : s.slotsUsed = sOf s.heap := by
    simp only [State.hasRoom, Bool.and_eq_true] at hroom
    have h2 : s.slotsTrue = true := hroom.2
    unfold State.slotsTrue at h2
    rw [sOf_fold] at h2
    exact eq_of_beq h2
  have ht : T.slotsUsed = sOf H := by
    unfold State.slotsTrue at hbook
    rw [sOf_fold, hT] at hbook
    exact eq_of_beq hbook
  have z1 := HB_sz hg.1
  have y1 : sOf H = es E + 9 * (sz σ - ez E) := hg.1.2.2.2.2.2.2.2.2.2
  have y3 : ez E ≤ sz σ := hg.1.2.2.2.2.2.2.2.2.1
  have hT2 : (T.setVm s.vm).heap = H := hT
  have hu2 : (T.setVm s.vm).slotsUsed = T.slotsUsed := rfl
  rw [hT2] at a2 a3
  refine ⟨a1, by rw [hT2]; exact a2, by rw [hT2, z1]; omega, a4, ?_, a6⟩
  rw [hu2, ht, hs, y1] at a4
  omega
/-- an int of the script -/
theorem l_arg {b L i k : Nat} {xs : Nat → Int32} (hexec : p.tables.exec = Jvm.exec) (hb : c.code = cc) (hX : va_X b L xs s s.heap) (hbl : b < s.heap.size) (hE0 : e0 E = s.heap.size) (hg : GS E σ s H locs) (hL : L ≤ 2560) (hi : i + k < L) (hl : lv_has ls 4 (lvL E b i)) (d0 : decode cc pc = .ok (.aload_n 0, 1)) (d1 : decode cc (pc + 1) = .ok (.iload_n 3, 1)) (d2 : decode cc (pc + 1 + 1) = .ok (.iconst (k : Int), 1)) (d3 : decode cc (pc + 1 + 1 + 1) = .ok (.iadd, 1)) (d4 : decode cc (pc + 1 + 1 + 1 + 1) = .ok (.iaload, 1))
    (kk : W p l e R s m args below meth c H locs cells slots Q (F0 m (pc + 5) ls (.int (iI (xs (i + k)).toInt) :: rest))) : W p l e R s m args below meth c H locs cells slots Q (F0 m pc ls rest) := by
  refine lv_aload_n hexec hb d0 rfl (lv_at hl 0 rfl) ?_
  refine lv_iload_n hexec hb d1 rfl (lv_at hl 3 rfl) ?_
  refine lv_iconst (v := iI (k : Int)) hexec hb d2 rfl ?_
  refine lv_iadd hexec hb d3 ?_
  rw [iI_add, show ((i : Int) + (k : Int)) = ((i + k : Nat) : Int) by omega]
  refine va_sld hexec hb hX hbl (A := Av E) (by show ¬ e0 E ≤ b; omega) hg.2 (iI_in (by omega) (by omega) (by omega)) d4 ?_
  rw [iI_clamp (by omega) (by omega), Int.toNat_natCast, show pc + 1 + 1 + 1 + 1 + 1 = pc + 5 from rfl]
  rw [← (iI_of (xs (i + k))).1] at kk
  exact kk
theorem l_same {a : Int64} {off : Int} {tgt : Nat} (hexec : p.tables.exec = Jvm.exec) (hb : c.code = cc) (hd1 : decode cc pc = .ok (.lcmp, 1)) (hd2 : decode cc (pc + 1) = .ok (.ifCond .eq off, 3)) (ht : ((pc + 1 : Nat) : Int) + off = (tgt : Int)) (kk : W p l e R s m args below meth c H locs cells slots Q (F0 m tgt ls rest)) : W p l e R s m args below meth c H locs cells slots Q (F0 m pc ls (.long a :: .long a :: rest)) := by
  refine W.lcmp hexec hb hd1 ?_
  have e : lg_cmp a a = 0 := by
    unfold lg_cmp
    rw [if_neg (fun h : a > a => by have h2 := Int64.lt_iff_toInt_lt.mp h; omega), if_pos rfl]
  rw [e]
  exact lv_if_eq hexec hb hd2 ht (fun _ => kk) (fun h => absurd rfl h)
end
