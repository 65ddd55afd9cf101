/-! ===== rows of the machine over the state ===== -/
section
variable {p : Program} {l : Launch} {e : Env} {R : Room} {s : State} {m : MethodId} {args : Array Value} {below : List Frame} {meth : Method} {c : Code} {H : Heap} {locs : List Loc} {cells slots : Nat} {Q : State → Prop}
variable {cc : ByteArray} {pc : Nat} {ls : Array Slot} {rest : List Value} {E : Ev} {σ : SS}
theorem HC_ob {i ci : Nat} (h : HC E σ i H) (hc : fcl i = ci) (h10 : ci < 10) : t_OB (ea E i) ((eD E).1 ci) (fln i) ((eD E).2 ci) H (cv E σ ci i) := by
  unfold HC at h
  rw [hc] at h
  split at h
  · omega
  · omega
  · omega
  · exact h
theorem HC_ai {i : Nat} (h : HC E σ i H) (hc : fcl i = 20) : H[ea E i]? = some (arrV (eI E) (fln i) (fun k => .int (iI (sn σ i k)))) := by
  unfold HC at h
  rw [hc] at h
  exact h
theorem HC_ab {i : Nat} (h : HC E σ i H) (hc : fcl i = 21) : H[ea E i]? = some (arrV (eB E) (fln i) (fun k => .int (iI (sn σ i k)))) := by
  unfold HC at h
  rw [hc] at h
  exact h
theorem HC_ar {i : Nat} (h : HC E σ i H) (hc : fcl i = 22) : H[ea E i]? = some (arrV (eR E) (fln i) (fun k => va_rf (sf σ i k))) := by
  unfold HC at h
  rw [hc] at h
  exact h
theorem q_P {a ci N : Nat} {V : Nat → Value} {C : String} {T : u_T} (hO : t_OB a ((eD E).1 ci) N ((eD E).2 ci) H V) (hc : vwCl[ci]? = some (C, T, N)) : va_P (eD E) vwCl [(a, .inr (ci, (List.range N).map V))] H := by
  intro k q hk
  cases k with
  | zero =>
    cases hk
    exact ⟨_, hc, hO.to (fun j hj => by simp [vp_V, hj])⟩
  | succ k => simp at hk
/-- a field is read -/
theorem q_get {own ref C : String} {T : u_T} {N ci index : Nat} {Ts : List Cond} {a : Nat} {V : Nat → Value} (hexec : p.tables.exec = Jvm.exec) (hb : c.code = cc) (hts : ∀ w ∈ Ts, w.before args s = true) (hin : ∀ w ∈ u_ws C T N, w ∈ Ts) (hown : s.vm.findClass own = some m.cls) (hK : KK E s)
    (hO : t_OB a ((eD E).1 ci) N ((eD E).2 ci) H V) (hc : vwCl[ci]? = some (C, T, N)) (k : Nat) (hk : k < N) (hlink : (Cond.fieldLink own index ref (T k).2.1 (T k).2.2.1).before args s = true) (href : (T k).1 = ref) {v : Value} (hv : V k = v) (hdg : decode cc pc = .ok (.getfield index, 3))
    (kk : W p l e R s m args below meth c H locs cells slots Q (F0 m (pc + 3) ls (v :: rest))) : W p l e R s m args below meth c H locs cells slots Q (F0 m pc ls (.ref a :: rest)) :=
  va_get hexec hb hts hin hown hK (q_P hO hc) 0 rfl hc k hk hlink (by rw [href]; exact fun _ h => h) (by simp [hk, hv]) hdg kk
/-- a field is written -/
theorem q_put {own ref C : String} {T : u_T} {N ci index : Nat} {Ts : List Cond} {a : Nat} {V : Nat → Value} (hexec : p.tables.exec = Jvm.exec) (hb : c.code = cc) (hts : ∀ w ∈ Ts, w.before args s = true) (hin : ∀ w ∈ u_ws C T N, w ∈ Ts) (ty0 : Nat → FieldType) (hty : ∀ k, k < N → parseFieldDescriptor (T k).2.2.1 = some (ty0 k)) (hnm : ∀ a, a < N → ∀ b, b < N → a ≠ b → (T a).2.1 ≠ (T b).2.1) (hown : s.vm.findClass own = some m.cls) (hK : KK E s)
    (hO : t_OB a ((eD E).1 ci) N ((eD E).2 ci) H V) (hc : vwCl[ci]? = some (C, T, N)) (k : Nat) (hk : k < N) (hlink : (Cond.fieldLink own index ref (T k).2.1 (T k).2.2.1).before args s = true) (href : (T k).1 = ref) (hfin : (T k).2.2.2 = false) {ty : FieldType} {v : Value} (hd : parseFieldDescriptor (T k).2.2.1 = some ty) (hn : narrow ty v = v) (hfit : fits ty v = true) (hdg : decode cc pc = .ok (.putfield index, 3))
    (kk : ∀ (H1 : Heap) (slot : Nat) (cell cell' : Cell), H[a]? = some cell → H1[a]? = some cell' → cell'.slots.size = cell.slots.size → H1.size = H.size → (∀ q, q ≠ a → H1[q]? = H[q]?) → t_OB a ((eD E).1 ci) N ((eD E).2 ci) H1 (updV V k v) → W p l e R s m args below meth c H1 (locs ++ [⟨a, slot⟩]) cells slots Q (F0 m (pc + 3) ls rest)) : W p l e R s m args below meth c H locs cells slots Q (F0 m pc ls (v :: .ref a :: rest)) := by
  have hap := va_apart (own := own) hts hin ty0 hty hnm hK hc
  obtain ⟨cell, q1, q2, q3, q4⟩ := hO
  obtain ⟨hS, hfc, kC, hkC, hkind⟩ := hK.1 ci _ hc
  obtain ⟨cf, kf, fi, f, hi, hsl⟩ := hS k hk
  have hlay := hts _ (hin _ (u_in_lay hk))
  unfold u_lay at hlay
  rw [if_neg (by rw [hfin]; decide)] at hlay
  have hst := (u_facts hfc hkC (u_lays hts hin hk) hi).1
  have h6 := u_store hfc hkC hkind hlay hi hd hn hfit
  rw [href] at hi
  refine W.putK hexec hb (f := f) ⟨hown, hlink, ⟨_, _, _, hi⟩, hst⟩ (by rw [q2]; exact h6) q1 q3 (by rw [hsl]; exact k2_hasslot (q4 k hk)) rfl rfl hdg fun H' e1 e2 e3 => ?_
  rw [hsl] at e1
  exact kk H' _ cell _ q1 e1 (setSlot_size _ _ _) e2 e3 ⟨_, e1, q2, q3, t_set q4 hap hk v⟩
theorem un_R (hR : ∀ i k, R32 (sn σ i k)) (i k : Nat) {v : Int} (hv : R32 v) : ∀ j q, R32 (sn (un σ i k v) j q) := by
  intro j q
  rw [sn_un]
  split
  · exact hv
  · exact hR j q
theorem uf_F (hF : ∀ i k b, sf σ i k = some b → sS σ b) (i k : Nat) {r : Option Nat} (hr : ∀ b, r = some b → sS σ b) : ∀ j q b, sf (uf σ i k r) j q = some b → sS σ b := by
  intro j q b
  rw [sf_uf]
  split
  · exact hr b
  · exact hF j q b
theorem cv_un (E : Ev) (σ : SS) (ci i k : Nat) (v : Int) (j : Nat) : cv E (un σ i k v) ci i j = if j = k then (match ffk ci k with | 0 => Value.int (iI v) | 1 => Value.long (lI v) | 2 => va_rf (sf σ i k) | _ => Value.ref (ea E (frt i k))) else cv E σ ci i j := by
  unfold cv
  by_cases h : j = k
  · subst h
    rw [if_pos rfl, sn_un_same]
    rfl
  · rw [if_neg h, sn_un_k _ _ h]
    rfl
theorem cv_uf (E : Ev) (σ : SS) (ci i k : Nat) (r : Option Nat) (j : Nat) : cv E (uf σ i k r) ci i j = if j = k then (match ffk ci k with | 0 => Value.int (iI (sn σ i k)) | 1 => Value.long (lI (sn σ i k)) | 2 => va_rf r | _ => Value.ref (ea E (frt i k))) else cv E σ ci i j := by
  unfold cv
  by_cases h : j = k
  · subst h
    rw [if_pos rfl, sf_uf_same]
    rfl
  · rw [if_neg h, sf_uf_k _ _ h]
    rfl
theorem ob_un {a ci i k N : Nat} {v : Int} {v' : Value} {H1 : Heap} (h : t_OB a ((eD E).1 ci) N ((eD E).2 ci) H1 (updV (cv E σ ci i) k v')) (hv : (match ffk ci k with | 0 => Value.int (iI v) | 1 => Value.long (lI v) | 2 => va_rf (sf σ i k) | _ => Value.ref (ea E (frt i k))) = v') : t_OB a ((eD E).1 ci) N ((eD E).2 ci) H1 (cv E (un σ i k v) ci i) :=
  h.to (fun j _ => by rw [cv_un, hv]; rfl)
theorem ob_uf {a ci i k N : Nat} {r : Option Nat} {v' : Value} {H1 : Heap} (h : t_OB a ((eD E).1 ci) N ((eD E).2 ci) H1 (updV (cv E σ ci i) k v')) (hv : (match ffk ci k with | 0 => Value.int (iI (sn σ i k)) | 1 => Value.long (lI (sn σ i k)) | 2 => va_rf r | _ => Value.ref (ea E (frt i k))) = v') : t_OB a ((eD E).1 ci) N ((eD E).2 ci) H1 (cv E (uf σ i k r) ci i) :=
  h.to (fun j _ => by rw [cv_uf, hv]; rfl)
theorem HC_of_ob {i ci : Nat} (h10 : ci < 10) (hc : fcl i = ci) (h : t_OB (ea E i) ((eD E).1 ci) (fln i) ((eD E).2 ci) H (cv E σ ci i)) : HC E σ i H := by
  unfold HC
  rw [hc]
  split
  · omega
  · omega
  · omega
  · exact h
/-- the state behind a write of a number into the fixed cell i -/
theorem GS_un {i k slot : Nat} {v : Int} {H1 : Heap} {cell cell' : Cell} (hg : GS E σ s H locs) (hi : i < 39) (hv : R32 v) (h1 : H[ea E i]? = some cell) (h2 : H1[ea E i]? = some cell') (hs : cell'.slots.size = cell.slots.size) (z : H1.size = H.size) (oq : ∀ q, q ≠ ea E i → H1[q]? = H[q]?) (hh : HC E (un σ i k v) i H1) : GS E (un σ i k v) s H1 (locs ++ [⟨ea E i, slot⟩]) := by
  refine ⟨HB_upd hg.1 h1 h2 hs z oq (fun j hj hne => ?_) (fun b hb hne => ?_) (fun j hj he => ?_) (fun hb => ?_) rfl rfl (un_R hg.1.2.2.2.2.2.1 i k hv) hg.1.2.2.2.2.2.2.1, hg.2.put z oq (HB_e0 hg.1 hi)⟩
  · have hji : j ≠ i := fun h => hne (by rw [h])
    exact ⟨fun q => sn_un_i _ _ hji, fun q => rfl⟩
  · have hji : b + 64 ≠ i := by omega
    exact ⟨fun q => sn_un_i _ _ hji, fun q => rfl⟩
  · have := HB_inj hg.1 hj hi he
    subst this
    exact hh
  · exact absurd rfl ((HB_nn hg.1 hb).2 i hi)
theorem GS_uf {i k slot : Nat} {r : Option Nat} {H1 : Heap} {cell cell' : Cell} (hg : GS E σ s H locs) (hi : i < 39) (hr : ∀ b, r = some b → sS σ b) (h1 : H[ea E i]? = some cell) (h2 : H1[ea E i]? = some cell') (hs : cell'.slots.size = cell.slots.size) (z : H1.size = H.size) (oq : ∀ q, q ≠ ea E i → H1[q]? = H[q]?) (hh : HC E (uf σ i k r) i H1) : GS E (uf σ i k r) s H1 (locs ++ [⟨ea E i, slot⟩]) := by
  refine ⟨HB_upd hg.1 h1 h2 hs z oq (fun j hj hne => ?_) (fun b hb hne => ?_) (fun j hj he => ?_) (fun hb => ?_) rfl rfl hg.1.2.2.2.2.2.1 (uf_F hg.1.2.2.2.2.2.2.1 i k hr), hg.2.put z oq (HB_e0 hg.1 hi)⟩
  · have hji : j ≠ i := fun h => hne (by rw [h])
    exact ⟨fun q => rfl, fun q => sf_uf_i _ _ hji⟩
  · have hji : b + 64 ≠ i := by omega
    exact ⟨fun q => rfl, fun q => sf_uf_i _ _ hji⟩
  · have := HB_inj hg.1 hj hi he
    subst this
    exact hh
  · exact absurd rfl ((HB_nn hg.1 hb).2 i hi)
theorem GS_nun {b k slot : Nat} {v : Int} {H1 : Heap} {cell cell' : Cell} (hg : GS E σ s H locs) (hb : sS σ b) (hv : R32 v) (h1 : H[b]? = some cell) (h2 : H1[b]? = some cell') (hs : cell'.slots.size = cell.slots.size) (z : H1.size = H.size) (oq : ∀ q, q ≠ b → H1[q]? = H[q]?) (hh : HN E (un σ (b + 64) k v) b H1) : GS E (un σ (b + 64) k v) s H1 (locs ++ [⟨b, slot⟩]) := by
  refine ⟨HB_upd hg.1 h1 h2 hs z oq (fun j hj hne => ?_) (fun b' hb' hne => ?_) (fun j hj he => ?_) (fun _ => hh) rfl rfl (un_R hg.1.2.2.2.2.2.1 _ k hv) hg.1.2.2.2.2.2.2.1, hg.2.put z oq (HB_nn hg.1 hb).1⟩
  · have hji : j ≠ b + 64 := by omega
    exact ⟨fun q => sn_un_i _ _ hji, fun q => rfl⟩
  · have hji : b' + 64 ≠ b + 64 := by omega
    exact ⟨fun q => sn_un_i _ _ hji, fun q => rfl⟩
  · exact absurd he.symm ((HB_nn hg.1 hb).2 j hj)
theorem GS_nuf {b k slot : Nat} {r : Option Nat} {H1 : Heap} {cell cell' : Cell} (hg : GS E σ s H locs) (hb : sS σ b) (hr : ∀ b, r = some b → sS σ b) (h1 : H[b]? = some cell) (h2 : H1[b]? = some cell') (hs : cell'.slots.size = cell.slots.size) (z : H1.size = H.size) (oq : ∀ q, q ≠ b → H1[q]? = H[q]?) (hh : HN E (uf σ (b + 64) k r) b H1) : GS E (uf σ (b + 64) k r) s H1 (locs ++ [⟨b, slot⟩]) := by
  refine ⟨HB_upd hg.1 h1 h2 hs z oq (fun j hj hne => ?_) (fun b' hb' hne => ?_) (fun j hj he => ?_) (fun _ => hh) rfl rfl hg.1.2.2.2.2.2.1 (uf_F hg.1.2.2.2.2.2.2.1 _ k hr), hg.2.put z oq (HB_nn hg.1 hb).1⟩
  · have hji : j ≠ b + 64 := by omega
    exact ⟨fun q => rfl, fun q => sf_uf_i _ _ hji⟩
  · have hji : b' + 64 ≠ b + 64 := by omega
    exact ⟨fun q => rfl, fun q => sf_uf_i _ _ hji⟩
  · exact absurd he.symm ((HB_nn hg.1 hb).2 j hj)
end
