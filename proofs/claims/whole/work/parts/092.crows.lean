/-! ===== making all: cells one behind the other ===== -/
abbrev ad (E : Ev) (i : Nat) : Nat := e0 E + i
def DW (c k : Nat) : Value := match ffk c k with
  | 0 => .int 0
  | 1 => .long 0
  | _ => .null
def FW (E : Ev) (i k : Nat) : Value := match ffk (fcl i) k with
  | 0 => .int 0
  | 1 => .long 0
  | 2 => .null
  | _ => .ref (ad E (frt i k))
abbrev WW : Type := Nat → Nat → Value
def upW (W : WW) (i k : Nat) (v : Value) : WW := fun j q => if j = i ∧ q = k then v else W j q
def dW (i c : Nat) (W : WW) : WW := fun j q => if j = i then DW c q else W j q
def fW (E : Ev) (i : Nat) (W : WW) : WW := fun j q => if j = i then FW E j q else W j q
def CC (E : Ev) (W : WW) (i : Nat) (H : Heap) : Prop := match fcl i with
  | 20 => H[ad E i]? = some (arrV (eI E) (fln i) (fun _ => .int 0))
  | 21 => H[ad E i]? = some (arrV (eB E) (fln i) (fun _ => .int 0))
  | 22 => H[ad E i]? = some (arrV (eR E) (fln i) (fun _ => .null))
  | c => t_OB (ad E i) ((eD E).1 c) (fln i) ((eD E).2 c) H (W i)
def CB (E : Ev) (n : Nat) (W : WW) (H : Heap) : Prop := H.size = ad E n ∧ ∀ i, i < n → CC E W i H
def CG (E : Ev) (n : Nat) (W : WW) (s : State) (H : Heap) (locs : List Loc) : Prop := CB E n W H ∧ va_S (Av E) s.heap H locs
/-- links of nest mates' constructors -/
def nestM : List (Nat × MethodName) := [(9, yX2_init), (33, yX7_init), (44, yX4_init), (67, yX6_init)]
def KM (s : State) : Prop := ∀ (k : Nat) (q : Nat × MethodName), nestM[k]? = some q → va_Nw (.methodLinkNest RX8 q.1 q.2 RX8) s
theorem KM.warm {s U : State} (hW : s.WarmedH U.vm) (h : KM s) : KM U := fun k q hq => va_Nw.warmM hW (h k q hq)
abbrev NA (U : State) : Prop := va_AO "JoinMaps$Node" U
def Cp (E : Ev) (n : Nat) (W : WW) (av : List Value) : Array Value → State → Prop := va_Pc av (fun U => CB E n W U.heap ∧ KK E U ∧ NA U ∧ KM U)
def Cq (E : Ev) (n : Nat) (W : WW) : Array Value → State → Outcome → State → Prop := va_Qv (S := Unit) (fun _ => True) (fun _ t => CB E n W t.heap) (Av E)
section
variable {p : Program} {l : Launch} {e : Env} {R : Room} {s : State} {m : MethodId} {args : Array Value} {below : List Frame} {meth : Method} {c : Code} {H : Heap} {locs : List Loc} {cells slots : Nat} {Q : State → Prop}
variable {cc bytes : ByteArray} {pc : Nat} {ls : Array Slot} {rest st As : List Value} {E : Ev} {n : Nat} {ω ω' : WW}
variable {own C : String} {y : MethodName} {maxL nL mc ms index a k' n' : Nat} {ret : Option FieldType} {ws Ts : List Cond} {rm : Room}
theorem CC_ob {i ci : Nat} (h : CC E ω i H) (hc : fcl i = ci) (h10 : ci < 10) : t_OB (ad E i) ((eD E).1 ci) (fln i) ((eD E).2 ci) H (ω i) := by
  unfold CC at h
  rw [hc] at h
  split at h
  · omega
  · omega
  · omega
  · exact h
theorem CC_of {i ci : Nat} (h10 : ci < 10) (hc : fcl i = ci) (h : t_OB (ad E i) ((eD E).1 ci) (fln i) ((eD E).2 ci) H (ω i)) : CC E ω i H := by
  unfold CC
  rw [hc]
  split
  · omega
  · omega
  · omega
  · exact h
theorem CC_to {H1 : Heap} {i : Nat} (h : CC E ω i H) (ho : H1[ad E i]? = H[ad E i]?) (hW : fcl i < 10 → ∀ k, k < fln i → ω' i k = ω i k) : CC E ω' i H1 := by
  by_cases c10 : fcl i < 10
  · exact CC_of c10 rfl (((CC_ob h rfl c10).kept ho).to (fun k hk => (hW c10 k hk).symm))
  · unfold CC at h ⊢
    rw [ho]
    have h22 : fcl i = 20 ∨ fcl i = 21 ∨ fcl i = 22 := by
      unfold fcl at c10 ⊢
      split at c10 <;> first | omega | (simp; done) | skip
    rcases h22 with z | z | z <;> (rw [z] at h ⊢; exact h)
theorem CB.congr (h : CB E n ω H) (hW : ∀ i, i < n → fcl i < 10 → ∀ k, k < fln i → ω' i k = ω i k) : CB E n ω' H := ⟨h.1, fun i hi => CC_to (h.2 i hi) rfl (hW i hi)⟩
theorem c_push {H1 : Heap} (h : CG E n ω s H locs) (z : H1.size = H.size + 1) (o : ∀ q, q < H.size → H1[q]? = H[q]?) (hW : ∀ i, i < n → ∀ k, ω' i k = ω i k) (hnew : CC E ω' n H1) : CG E (n + 1) ω' s H1 locs := by
  obtain ⟨⟨h1, h2⟩, hS⟩ := h
  refine ⟨⟨by rw [z, h1]; rfl, fun i hi => ?_⟩, ⟨Nat.le_trans hS.1 (by omega), fun x a1 a2 => (o x (Nat.lt_of_lt_of_le a1 hS.1)).trans (hS.2.1 x a1 a2), hS.2.2⟩⟩
  by_cases c : i = n
  · rw [c]; exact hnew
  · exact CC_to (h2 i (by omega)) (o _ (by rw [h1]; show e0 E + i < e0 E + n; omega)) (fun _ k _ => hW i (by omega) k)
theorem c_newi (hexec : p.tables.exec = Jvm.exec) (hb : c.code = cc) (harr : (Cond.arrayClass .int).before args s = true) (hK : KK E s) (hg : CG E n ω s H locs) (hfc : fcl n = 20) {v : Int32} {N : Nat} (hneg : ¬ v < 0) (hv : v.toNatClampNeg = N) (hN : fln n = N) (hbytes : N * 4 ≤ 536870912) (hcells : cells + 1 ≤ R.cells) (hslots : slots + N ≤ R.slots) (hdg : decode cc pc = .ok (.newarray .int, 2))
    (kk : ∀ H1, CG E (n + 1) ω s H1 locs → W p l e R s m args below meth c H1 locs (cells + 1) (slots + N) Q (F0 m (pc + 2) ls (.ref (ad E n) :: rest))) : W p l e R s m args below meth c H locs cells slots Q (F0 m pc ls (.int v :: rest)) := by
  refine va_newaK (atype := .int) hexec hb harr rfl hdg rfl hneg hv hbytes hcells hslots hg.1.1 fun H1 cA e1 z1 o1 _ hNm => ?_
  have hA : s.vm.findClass ("[" ++ FieldType.int.toString) = some (eI E) := (hK.2 0 _ rfl).2
  have : cA = eI E := Option.some.inj (hNm.symm.trans hA)
  subst this
  refine kk H1 (c_push hg (by rw [z1, hg.1.1]) (fun q hq => o1 q (by rw [← hg.1.1]; exact hq)) (fun _ _ _ => rfl) ?_)
  unfold CC
  rw [hfc, hN]
  exact e1
theorem c_newb (hexec : p.tables.exec = Jvm.exec) (hb : c.code = cc) (harr : (Cond.arrayClass .byte).before args s = true) (hK : KK E s) (hg : CG E n ω s H locs) (hfc : fcl n = 21) {v : Int32} {N : Nat} (hneg : ¬ v < 0) (hv : v.toNatClampNeg = N) (hN : fln n = N) (hbytes : N * 1 ≤ 536870912) (hcells : cells + 1 ≤ R.cells) (hslots : slots + N ≤ R.slots) (hdg : decode cc pc = .ok (.newarray .byte, 2))
    (kk : ∀ H1, CG E (n + 1) ω s H1 locs → W p l e R s m args below meth c H1 locs (cells + 1) (slots + N) Q (F0 m (pc + 2) ls (.ref (ad E n) :: rest))) : W p l e R s m args below meth c H locs cells slots Q (F0 m pc ls (.int v :: rest)) := by
  refine va_newaK (atype := .byte) hexec hb harr rfl hdg rfl hneg hv hbytes hcells hslots hg.1.1 fun H1 cA e1 z1 o1 _ hNm => ?_
  have hA : s.vm.findClass ("[" ++ FieldType.byte.toString) = some (eB E) := (hK.2 1 _ rfl).2
  have : cA = eB E := Option.some.inj (hNm.symm.trans hA)
  subst this
  refine kk H1 (c_push hg (by rw [z1, hg.1.1]) (fun q hq => o1 q (by rw [← hg.1.1]; exact hq)) (fun _ _ _ => rfl) ?_)
  unfold CC
  rw [hfc, hN]
  exact e1
theorem c_anew (hexec : p.tables.exec = Jvm.exec) (hb : c.code = cc) (hown : s.vm.findClass own = some m.cls) (hcl : (Cond.classLink own index RX3).before args s = true) (hO : NA s) (hK : KK E s) (hg : CG E n ω s H locs) (hfc : fcl n = 22) {v : Int32} {N : Nat} (hneg : ¬ v < 0) (hv : v.toNatClampNeg = N) (hN : fln n = N) (hbytes : N * 4 ≤ 536870912) (hcells : cells + 1 ≤ R.cells) (hslots : slots + N ≤ R.slots) (hdg : decode cc pc = .ok (.anewarray index, 3))
    (kk : ∀ H1, CG E (n + 1) ω s H1 locs → W p l e R s m args below meth c H1 locs (cells + 1) (slots + N) Q (F0 m (pc + 3) ls (.ref (ad E n) :: rest))) : W p l e R s m args below meth c H locs cells slots Q (F0 m pc ls (.int v :: rest)) := by
  subst hv
  refine W.anew (C := RX3) hexec hb hown hcl (va_AO.use hO) rfl hdg rfl hneg hbytes hcells hslots fun cA kA comp f1 f2 f3 f4 => ?_
  obtain ⟨-, -, -, -, -, hA⟩ : va_RA s (eR E) (.object "JoinMaps$Node") := (hK.2 2 _ rfl).2
  have : cA = eR E := Option.some.inj (f1.symm.trans hA)
  subst this
  have hk := kk (H.push ({ cls := eR E, slots := Array.replicate v.toNatClampNeg .null, vm := .none } : Cell)) (c_push hg (by rw [Array.size_push]) (fun q hq => by rw [Array.getElem?_push, if_neg (Nat.ne_of_lt hq)]) (fun _ _ _ => rfl) (by
    have e1 : (H.push ({ cls := eR E, slots := Array.replicate v.toNatClampNeg .null, vm := .none } : Cell))[ad E n]? = some (arrV (eR E) v.toNatClampNeg (fun _ => .null)) := by rw [← hg.1.1, Array.getElem?_push_size, ← arrV_new]
    unfold CC
    rw [hfc, hN]
    exact e1))
  rw [← hg.1.1] at hk
  exact hk
theorem c_new {T : u_T} {N ci : Nat} (hexec : p.tables.exec = Jvm.exec) (hb : c.code = cc) (hts : ∀ w ∈ Ts, w.before args s = true) (hin : ∀ w ∈ u_ws C T N, w ∈ Ts) (ty : Nat → FieldType) (hty : ∀ k, k < N → parseFieldDescriptor (T k).2.2.1 = some (ty k)) (hown : s.vm.findClass own = some m.cls) (hcl : (Cond.classLink own index C).before args s = true) (hinst : (Cond.instantiable C N).before args s = true) (hini : (Cond.initialized C).before args s = true)
    (hK : KK E s) (hg : CG E n ω s H locs) (hfc : fcl n = ci) (h10 : ci < 10) (hN : fln n = N) (hc : vwCl[ci]? = some (C, T, N)) (hd : ∀ j, j < N → defaultValue (ty j) = DW ci j) (hcells : cells + 1 ≤ R.cells) (hslots : slots + N ≤ R.slots) (hdg : decode cc pc = .ok (.new index, 3))
    (kk : ∀ H1, CG E (n + 1) (dW n ci ω) s H1 locs → W p l e R s m args below meth c H1 locs (cells + 1) (slots + N) Q (F0 m (pc + 3) ls (.ref (ad E n) :: rest))) : W p l e R s m args below meth c H locs cells slots Q (F0 m pc ls rest) := by
  have hKn := hK.1 ci _ hc
  refine W.newcK hexec hb hown hcl hinst hini rfl hdg hcells hslots hKn.2.1 hg.1.1 fun H1 kC hkC e1 z1 o1 => ?_
  refine kk H1 (c_push hg (by rw [z1, hg.1.1]) (fun q hq => o1 q (by rw [← hg.1.1]; exact hq)) (fun i hi k => if_neg (by omega)) ?_)
  refine CC_of h10 hfc ?_
  rw [hN]
  exact (u_born ty hts hin hKn hkC e1 hty).to (fun j hj => by rw [hd j hj]; exact (if_pos rfl).symm)
theorem c_get {T : u_T} {N ci : Nat} {ref : String} (hexec : p.tables.exec = Jvm.exec) (hb : c.code = cc) (hts : ∀ w ∈ Ts, w.before args s = true) (hin : ∀ w ∈ u_ws C T N, w ∈ Ts) (hown : s.vm.findClass own = some m.cls) (hK : KK E s) (hg : CG E n ω s H locs) (i : Nat) (hi : i < n) (hfc : fcl i = ci) (h10 : ci < 10) (hN : fln i = N) (hc : vwCl[ci]? = some (C, T, N)) (k : Nat) (hk : k < N)
    (hlink : (Cond.fieldLink own index ref (T k).2.1 (T k).2.2.1).before args s = true) (href : (T k).1 = ref) {v : Value} (hv : ω i k = v) (hdg : decode cc pc = .ok (.getfield index, 3)) (kk : W p l e R s m args below meth c H locs cells slots Q (F0 m (pc + 3) ls (v :: rest))) : W p l e R s m args below meth c H locs cells slots Q (F0 m pc ls (.ref (ad E i) :: rest)) := by
  have hO := CC_ob (hg.1.2 i hi) hfc h10
  rw [hN] at hO
  exact q_get hexec hb hts hin hown hK hO hc k hk hlink href hv hdg kk
theorem c_putF {T : u_T} {N ci : Nat} {ref : String} (hexec : p.tables.exec = Jvm.exec) (hb : c.code = cc) (hts : ∀ w ∈ Ts, w.before args s = true) (hin : ∀ w ∈ u_ws C T N, w ∈ Ts) (ty0 : Nat → FieldType) (hty : ∀ k, k < N → parseFieldDescriptor (T k).2.2.1 = some (ty0 k)) (hnm : ∀ a, a < N → ∀ b, b < N → a ≠ b → (T a).2.1 ≠ (T b).2.1) (hown : s.vm.findClass own = some m.cls) (hK : KK E s) (hg : CG E n ω s H locs) (i : Nat) (hi : i < n) (hfc : fcl i = ci) (h10 : ci < 10) (hN : fln i = N) (hc : vwCl[ci]? = some (C, T, N)) (k : Nat) (hk : k < N)
    (hlink : (Cond.fieldLink own index ref (T k).2.1 (T k).2.2.1).before args s = true) (href : (T k).1 = ref) (hfin : (T k).2.2.2 = true) (hin2 : meth.name = "<init>") (hdecl : (T k).1 = own) {ty : FieldType} {v : Value} (hd : parseFieldDescriptor (T k).2.2.1 = some ty) (hn : narrow ty v = v) (hfit : fits ty v = true) (hdg : decode cc pc = .ok (.putfield index, 3))
    (kk : ∀ (H1 : Heap) (locs1 : List Loc), CG E n (upW ω i k v) s H1 locs1 → W p l e R s m args below meth c H1 locs1 cells slots Q (F0 m (pc + 3) ls rest)) : W p l e R s m args below meth c H locs cells slots Q (F0 m pc ls (v :: .ref (ad E i) :: rest)) := by
  have hO := CC_ob (hg.1.2 i hi) hfc h10
  rw [hN] at hO
  have hap := va_apart (own := own) hts hin ty0 hty hnm hK hc
  obtain ⟨cell, q1, q2, q3, q4⟩ := hO
  obtain ⟨hS, hfc', kC, hkC, hkind⟩ := hK.1 ci _ hc
  obtain ⟨cf, kf, fi, f, hi2, hsl⟩ := hS k hk
  have hlay := hts _ (hin _ (u_in_lay hk))
  unfold u_lay at hlay
  rw [if_pos hfin] at hlay
  have hst := (u_facts hfc' hkC (u_lays hts hin hk) hi2).1
  have hcf : m.cls = cf := by
    obtain ⟨_, _, c', _, _, _, -, -, hf', -, -, -, hown2, -⟩ := Cond.laysFinal_spec hlay
    have e1 : c' = cf := by have := hi2.symm.trans hf'; simp at this; exact this.1.symm
    rw [hdecl] at hown2
    rw [← e1]; exact Option.some.inj (hown.symm.trans hown2)
  have h6 := u_fits hfc' hkC hkind (Or.inr hlay) hi2 hd hn hfit
  rw [href] at hi2
  refine W.putFinK hexec hb hown hlink hi2 hst hcf hin2 (by rw [q2]; exact h6) q1 q3 (by rw [hsl]; exact k2_hasslot (q4 k hk)) rfl rfl hdg fun H' e1 e2 e3 => ?_
  rw [hsl] at e1 ⊢
  refine kk H' _ ⟨⟨by rw [e2]; exact hg.1.1, fun j hj => ?_⟩, hg.2.put e2 e3 (Nat.le_add_right _ _)⟩
  by_cases c0 : j = i
  · rw [c0]
    refine CC_of h10 hfc ?_
    rw [hN]
    exact t_OB.to (V := updV (ω i) k v) ⟨_, e1, q2, q3, t_set q4 hap hk v⟩ (fun q _ => by simp [upW, updV])
  · exact CC_to (hg.1.2 j hj) (e3 _ (by show e0 E + j ≠ e0 E + i; omega)) (fun _ q _ => if_neg (fun z => c0 z.1))
theorem Cp_blind (E : Ev) (n : Nat) (ω : WW) (av : List Value) : FrameBlind (Cp E n ω av) := fun a U g mk q => by
  obtain ⟨q0, q1, q2, q3, q4⟩ := q
  exact ⟨q0, q1, va_K.moved (u := U) (U := U.calling g mk a) (Vm.Alike.refl U.vm) q2, va_AO.moved (u := U) (U := U.calling g mk a) (Vm.Alike.refl U.vm) q3, fun k q hq => va_Nw.same rfl (u := U) (U := U.calling g mk a) rfl (q4 k q hq)⟩
theorem c_pre (hg : CG E n ω s H locs) (hK : KK E s) (hO : NA s) (hM : KM s) : PreS s H (Cp E n ω As) As := ⟨Cp_blind E n ω As, fun U hU hW => ⟨rfl, by rw [hU]; exact hg.1, va_K.moved hW.alike hK, va_AO.moved hW.alike hO, hM.warm hW⟩⟩
theorem c_call {av : Array Value} (hr : va_Run p l e R s m args below meth c H locs cells slots mc ms (F0 m pc ls st) rest (Cq E n' ω' av) (Av E)) (hg : CG E n ω s H locs)
    (kk : ∀ (H1 : Heap) (locs1 : List Loc), CG E n' ω' s H1 locs1 → W p l e R s m args below meth c H1 locs1 (cells + mc) (slots + ms) Q (F0 m (pc + 3) ls rest)) : W p l e R s m args below meth c H locs cells slots Q (F0 m pc ls st) :=
  va_callv hr hg.2 (fun q _ h => h) (fun q h => h) (fun u t H1 locs1 ht _ _ hB _ _ hS => kk H1 locs1 ⟨by rw [← ht]; exact hB, hS⟩)
theorem c_ret {cells' slots' : Nat} (hexec : p.tables.exec = Jvm.exec) (hb : c.code = cc) (hr : meth.sig.returnType = none) (hlocks : meth.locks = false) (hg : CG E n ω s H locs) (hq : CB E n ω' H) (hdg : decode cc pc = .ok (.return_, 1)) : W p l e R s m args below meth c H locs cells slots (MQ below (Cq E n ω') args s cells slots (Av E)) (F0 m pc ls []) :=
  W.vret hexec hb hr (fun t ht _ => ⟨⟨(), rfl, trivial, (show CB E n ω' t.heap by rw [ht]; exact hq)⟩, hg.2.F ht⟩) hg.2.2.2 hdg hlocks
end
