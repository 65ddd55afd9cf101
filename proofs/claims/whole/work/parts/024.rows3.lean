section
variable {p : Program} {l : Launch} {e : Env} {R : Room} {s : State} {m : MethodId} {args : Array Value} {below : List Frame} {meth : Method} {c : Code} {H : Heap} {locs : List Loc} {cells slots : Nat} {Q : State → Prop}
variable {cc : ByteArray} {pc : Nat} {ls : Array Slot} {rest : List Value} {E : Ev} {σ : SS}
variable {own ref C : String} {T : u_T} {N ci index : Nat} {Ts : List Cond}
theorem arr_un (i : Nat) (k : Nat) (v : Int) : (fun j => Value.int (iI (sn (un σ i k v) i j))) = updV (fun j => Value.int (iI (sn σ i j))) k (.int (iI v)) := by
  funext j
  rw [sn_un]
  unfold updV
  by_cases h : j = k
  · rw [if_pos ⟨rfl, h⟩, if_pos h]
  · rw [if_neg (fun q => h q.2), if_neg h]
theorem arr_uf (i : Nat) (k : Nat) (r : Option Nat) : (fun j => va_rf (sf (uf σ i k r) i j)) = updV (fun j => va_rf (sf σ i j)) k (va_rf r) := by
  funext j
  rw [sf_uf]
  unfold updV
  by_cases h : j = k
  · rw [if_pos ⟨rfl, h⟩, if_pos h]
  · rw [if_neg (fun q => h q.2), if_neg h]
theorem arr_in {cA : ClassId} {f : Nat → Value} {z : Int} (h0 : 0 ≤ z) (h1 : z < N) (hN : N < 2147483648) : ¬ (iI z < 0 ∨ (arrV cA N f).slots.size ≤ (iI z).toNatClampNeg) := by
  rw [arrV_size]
  exact iI_in h0 h1 hN
theorem q_iast (hexec : p.tables.exec = Jvm.exec) (hb : c.code = cc) (hK : KK E s) (hg : GS E σ s H locs) (i : Nat) (hi : i < 39) (hfc : fcl i = 20) (hln : fln i = N) {z v : Int} (h0 : 0 ≤ z) (h1 : z < N) (hN : N < 2147483648) (hv : R32 v) (hdg : decode cc pc = .ok (.iastore, 1))
    (kk : ∀ (H1 : Heap) (locs1 : List Loc), GS E (un σ i z.toNat v) s H1 locs1 → W p l e R s m args below meth c H1 locs1 cells slots Q (F0 m (pc + 1) ls rest)) : W p l e R s m args below meth c H locs cells slots Q (F0 m pc ls (.int (iI v) :: .int (iI z) :: .ref (ea E i) :: rest)) := by
  have hc := HC_ai (hg.1.1 i hi) hfc
  refine W.iast hexec hb hc ((hK.2 0 _ rfl).1 _ _) (fun q => by cases q) (by rw [hln]; exact arr_in h0 h1 hN) rfl rfl hdg fun H1 e1 z1 oq => ?_
  rw [iI_clamp h0 (by omega)] at e1 ⊢
  refine kk H1 _ (GS_un hg hi hv hc e1 (setSlot_size _ _ _) z1 oq ?_)
  unfold HC
  rw [hfc, arr_un, ← arrV_store]
  exact e1
theorem iI_byte {v : Int} (h : 0 ≤ v ∧ v ≤ 127) : (iI v).toInt8.toInt32 = iI v := by
  have key : ∀ j : Fin 128, (iI (j.val : Int)).toInt8.toInt32 = iI (j.val : Int) := by decide +kernel
  obtain ⟨k, hk, rfl⟩ : ∃ k : Nat, k < 128 ∧ v = (k : Int) := ⟨v.toNat, by omega, by omega⟩
  exact key ⟨k, hk⟩
theorem q_bast (hexec : p.tables.exec = Jvm.exec) (hb : c.code = cc) (hK : KK E s) (hg : GS E σ s H locs) (i : Nat) (hi : i < 39) (hfc : fcl i = 21) (hln : fln i = N) {z v : Int} (h0 : 0 ≤ z) (h1 : z < N) (hN : N < 2147483648) (hv : 0 ≤ v ∧ v ≤ 127) (hdg : decode cc pc = .ok (.bastore, 1))
    (kk : ∀ (H1 : Heap) (locs1 : List Loc), GS E (un σ i z.toNat v) s H1 locs1 → W p l e R s m args below meth c H1 locs1 cells slots Q (F0 m (pc + 1) ls rest)) : W p l e R s m args below meth c H locs cells slots Q (F0 m pc ls (.int (iI v) :: .int (iI z) :: .ref (ea E i) :: rest)) := by
  have hc := HC_ab (hg.1.1 i hi) hfc
  have hb8 : narrow .byte (.int (iI v)) = .int (iI v) := by
    show Value.int ((iI v).toInt8.toInt32) = _
    rw [iI_byte hv]
  refine W.bast hexec hb hc ((hK.2 1 _ rfl).1 _ _) (fun q => by cases q) (by rw [hln]; exact arr_in h0 h1 hN) rfl rfl hdg fun H1 e1 z1 oq => ?_
  rw [iI_clamp h0 (by omega)] at e1 ⊢
  rw [hb8] at e1
  refine kk H1 _ (GS_un hg hi ⟨by omega, by omega⟩ hc e1 (setSlot_size _ _ _) z1 oq ?_)
  unfold HC
  rw [hfc, arr_un]
  rw [arrV_store] at e1
  exact e1
theorem q_aast (hexec : p.tables.exec = Jvm.exec) (hb : c.code = cc) (hK : KK E s) (hg : GS E σ s H locs) (i : Nat) (hi : i < 39) (hfc : fcl i = 22) (hln : fln i = N) {z : Int} (h0 : 0 ≤ z) (h1 : z < N) (hN : N < 2147483648) {r : Option Nat} (hr : ∀ b, r = some b → sS σ b) (hdg : decode cc pc = .ok (.aastore, 1))
    (kk : ∀ (H1 : Heap) (locs1 : List Loc), GS E (uf σ i z.toNat r) s H1 locs1 → W p l e R s m args below meth c H1 locs1 cells slots Q (F0 m (pc + 1) ls rest)) : W p l e R s m args below meth c H locs cells slots Q (F0 m pc ls (va_rf r :: .int (iI z) :: .ref (ea E i) :: rest)) := by
  have hc := HC_ar (hg.1.1 i hi) hfc
  cases r with
  | none =>
    refine va_WaastN (C := "JoinMaps$Node") hexec hb hc ((hK.2 2 _ rfl).1 _ _) (fun q => by cases q) (by rw [hln]; exact arr_in h0 h1 hN) rfl rfl hdg fun H1 e1 z1 oq => ?_
    rw [iI_clamp h0 (by omega)] at e1 ⊢
    refine kk H1 _ (GS_uf hg hi hr hc e1 (setSlot_size _ _ _) z1 oq ?_)
    unfold HC
    rw [hfc, arr_uf]
    rw [arrV_store] at e1
    exact e1
  | some v =>
    have hS := hr v rfl
    obtain ⟨cellV, g1, g2, g3, -⟩ := hg.1.2.1 v hS
    have hcls := (hK.1 3 _ (show vwCl[3]? = some (RX3, TX3, 9) from rfl)).2
    obtain ⟨kA, comp, k1, k2, k3, -⟩ := (hK.2 2 _ rfl).2
    have hcomp : comp = (eD E).1 3 := Option.some.inj (k3.symm.trans hcls.1)
    subst hcomp
    obtain ⟨kC, hkC, -⟩ := hcls.2
    have hin := iI_in h0 h1 hN
    refine W.aast hexec hb hc (fun q h => by cases h) (fun h => by cases h) k1 k2 rfl hkC ⟨fun q => hin (Or.inl q), by rw [arrV_size, hln]; exact Nat.not_le.mp fun q => hin (Or.inr q)⟩ g1 (fun q h => by rw [g3] at h; cases h) (by rw [g2]; exact hkC) (by rw [g2]; exact va_assign hcls) rfl rfl hdg fun H1 e1 z1 oq => ?_
    rw [iI_clamp h0 (by omega)] at e1 ⊢
    refine kk H1 _ (GS_uf hg hi hr hc e1 (setSlot_size _ _ _) z1 oq ?_)
    unfold HC
    rw [hfc, arr_uf]
    rw [arrV_store] at e1
    exact e1
/-- a new node, its numbers 0, its references null -/
theorem q_newN (hexec : p.tables.exec = Jvm.exec) (hb : c.code = cc) (hts : ∀ w ∈ Ts, w.before args s = true) (hin : ∀ w ∈ wsX30, w ∈ Ts) (hown : s.vm.findClass own = some m.cls) (hcl : (Cond.classLink own index RX3).before args s = true) (hinst : (Cond.instantiable RX3 9).before args s = true) (hini : (Cond.initialized RX3).before args s = true) (hK : KK E s) (hg : GS E σ s H locs)
    (hcells : cells + 1 ≤ R.cells) (hslots : slots + 9 ≤ R.slots) (hdg : decode cc pc = .ok (.new index, 3))
    (kk : ∀ (H1 : Heap) (b : Nat), b = sz σ → sS (unew σ) b → GS E (unew σ) s H1 locs → W p l e R s m args below meth c H1 locs (cells + 1) (slots + 9) Q (F0 m (pc + 3) ls (.ref b :: rest))) : W p l e R s m args below meth c H locs cells slots Q (F0 m pc ls rest) := by
  have hKn := hK.1 3 _ (show vwCl[3]? = some (RX3, TX3, 9) from rfl)
  refine W.newc hexec hb hown hcl hinst hini rfl hdg hcells hslots fun cC kC r1 r2 r3 r4 => ?_
  have hcC : (eD E).1 3 = cC := Option.some.inj (hKn.2.1.symm.trans r1)
  have hsz := HB_sz hg.1
  rw [show ({ F0 m pc ls rest with pc := (F0 m pc ls rest).pc + 3, stack := Value.ref H.size :: (F0 m pc ls rest).stack } : JFrame) = F0 m (pc + 3) ls (.ref H.size :: rest) from rfl]
  refine kk _ H.size hsz (Or.inr hsz) ?_
  obtain ⟨⟨a1, a2, a3, a4, a5, a6, a7, a8, a9, a10⟩, hS⟩ := hg
  have old : ∀ q : Nat, q < H.size → (H.push (blank cC kC))[q]? = H[q]? := fun q hq => by rw [Array.getElem?_push, if_neg (Nat.ne_of_lt hq)]
  have new : (H.push (blank cC kC))[H.size]? = some (blank cC kC) := by simp
  have hlt : ∀ i, i < 39 → ea E i < H.size := by
    intro i hi
    have h := a1 i hi
    unfold HC at h
    split at h
    · exact (Array.getElem?_eq_some_iff.mp h).1
    · exact (Array.getElem?_eq_some_iff.mp h).1
    · exact (Array.getElem?_eq_some_iff.mp h).1
    · obtain ⟨cell, q1, -⟩ := h
      exact (Array.getElem?_eq_some_iff.mp q1).1
  have hltN : ∀ b, sS σ b → b < H.size := by
    intro b hb
    obtain ⟨cell, q1, -⟩ := a2 b hb
    exact (Array.getElem?_eq_some_iff.mp q1).1
  have h0 : e0 E ≤ H.size := Nat.le_trans (a4 0 (by decide)) (Nat.le_of_lt (hlt 0 (by decide)))
  refine ⟨⟨fun i hi => ?_, fun b hb => ?_, a3, a4, fun b hb => ?_, fun i k => ?_, fun i k b hb => ?_, ?_, ?_, ?_⟩, ?_⟩
  · refine HC_congr (fun k => ?_) (fun k => ?_) (old _ (hlt i hi)) (a1 i hi)
    · rw [sn_unew, if_neg (by have := hlt i hi; omega)]
    · rw [sf_unew, if_neg (by have := hlt i hi; omega)]
  · rw [sS_unew] at hb
    by_cases hbz : b = sz σ
    · subst hbz
      show t_OB _ _ _ _ _ _
      have born := u_born (H := H.push (blank cC kC)) (o := H.size) tyX3 hts hin hKn (hcC ▸ r2) (by rw [new, hcC]) tyX3_ok
      rw [← hsz]
      refine born.to (fun k hk => ?_)
      have hn0 : ∀ k, sn (unew σ) (H.size + 64) k = 0 := fun k => by rw [sn_unew, if_pos (by rw [hsz])]
      have hf0 : ∀ k, sf (unew σ) (H.size + 64) k = none := fun k => by rw [sf_unew, if_pos (by rw [hsz])]
      unfold cv
      rw [hn0, hf0]
      rcases (show k = 0 ∨ k = 1 ∨ k = 2 ∨ k = 3 ∨ k = 4 ∨ k = 5 ∨ k = 6 ∨ k = 7 ∨ k = 8 by omega) with rfl | rfl | rfl | rfl | rfl | rfl | rfl | rfl | rfl <;> rfl
    · have hb' : sS σ b := hb.resolve_right hbz
      refine HN_congr (fun k => ?_) (fun k => ?_) (old _ (hltN b hb')) (a2 b hb')
      · rw [sn_unew, if_neg (by omega)]
      · rw [sf_unew, if_neg (by omega)]
  · rw [sS_unew] at hb
    rcases hb with hb | hb
    · exact a5 b hb
    · subst hb
      exact ⟨by rw [← hsz]; exact h0, fun i hi h => by have := hlt i hi; omega⟩
  · rw [sn_unew]
    split
    · exact ⟨by decide, by decide⟩
    · exact a6 i k
  · rw [sf_unew] at hb
    split at hb
    · cases hb
    · exact Or.inl (a7 i k b hb)
  · rw [sz_unew]
    show (H.push _).size = _
    rw [Array.size_push, hsz]
  · rw [sz_unew]; omega
  · rw [sz_unew, show sOf (H.push { cls := cC, slots := kC.instanceTypes.map defaultValue, vm := .none }) = sOf H + (kC.instanceTypes.map defaultValue).size from sOf_push _ _, Array.size_map, r4, a10]
    omega
  · exact ⟨Nat.le_trans hS.1 (by rw [Array.size_push]; omega), fun q h1 h2 => (old q (Nat.lt_of_lt_of_le h1 hS.1)).trans (hS.2.1 q h1 h2), hS.2.2⟩
end
