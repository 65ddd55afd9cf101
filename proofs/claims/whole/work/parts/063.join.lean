/-! ===== join and its turns ===== -/
def TT (σ : SS) (P : Nat → Prop) (r : Option Nat) (l : List KV) : Prop := ∃ d, T σ P d r l
def BT (Z tp : Nat) (TM : Int) : Prop := TM ≤ 1000000 ∧ Z + 81600 + TM.toNat ≤ tp
theorem Ext.TT {n : Int} {σ σ1 : SS} {P P1 : Nat → Prop} (h : Ext n σ P σ1 P1) {r : Option Nat} {l : List KV} (ht : TT σ P r l) : TT σ1 P1 r l := ht.elim fun d h2 => ⟨d, h.T h2⟩
theorem TT_nil {σ : SS} {P : Nat → Prop} : TT σ P none [] := ⟨0, T_nil 0⟩
theorem TT_none {σ : SS} {P : Nat → Prop} {l : List KV} (h : TT σ P none l) : l = [] := h.elim fun _ h => T_none h
theorem TT_isnil {σ : SS} {P : Nat → Prop} {r : Option Nat} {l : List KV} (h : TT σ P r l) : r = none ↔ l = [] := h.elim fun _ h => T_isnil h
theorem TT_some {σ : SS} {P : Nat → Prop} {b : Nat} {l : List KV} (h : TT σ P (some b) l) : ∃ (l1 l2 : List KV), P b ∧ TT σ P (sf σ (b + 64) 4) l1 ∧ TT σ P (sf σ (b + 64) 5) l2 ∧ l = l1 ++ (sn σ (b + 64) 0, sn σ (b + 64) 1) :: l2 ∧ sn σ (b + 64) 2 = l.length ∧ sn σ (b + 64) 3 = sumv l ∧ bal (tw l1) (tw l2) := by
  obtain ⟨d, h⟩ := h
  obtain ⟨e, l1, l2, -, hP, h1, h2, h⟩ := T_some h
  exact ⟨l1, l2, hP, ⟨e, h1⟩, ⟨e, h2⟩, h⟩
theorem tw_app (l1 l2 : List KV) (p : KV) : tw (l1 ++ p :: l2) = tw l1 + tw l2 := by unfold tw; simp; omega
theorem tw_pos (l : List KV) : 1 ≤ tw l := by unfold tw; omega
section
variable {Z tp : Nat} {σ : SS} {P : Nat → Prop} {TM : Int} {Q : Option Nat → SS → Prop}
theorem sp_nodeT {a1 a4 : Option Nat} {k v : Int} {l1 l2 : List KV} (hG : GI Z σ P) (ht : sn σ 1 2 + 1 ≤ TM) (hB : BT Z tp TM) (h1 : TT σ P a1 l1) (h2 : TT σ P a4 l2) (hV : Vok (l1 ++ (k, v) :: l2)) (hlen : (l1 ++ (k, v) :: l2).length ≤ 1000) (hb : bal (tw l1) (tw l2))
    (hq : ∀ (b : Nat) (σ' : SS) (P' : Nat → Prop), GI Z σ' P' → Ext 1 σ P σ' P' → TT σ' P' (some b) (l1 ++ (k, v) :: l2) → Q (some b) σ') : wX2_node tp a1 k v a4 σ Q := by
  obtain ⟨d1, h1⟩ := h1
  obtain ⟨d2, h2⟩ := h2
  exact sp_node hG ht hB.1 hB.2 (T_le (Nat.le_max_left d1 d2) h1) (T_le (Nat.le_max_right d1 d2) h2) hV hlen hb (fun b σ' P' g e t => hq b σ' P' g e ⟨_, t⟩)
theorem sp_weightOfT {r : Option Nat} {l : List KV} {Q : Int → SS → Prop} (h : TT σ P r l) (hl : l.length ≤ 1000) (hq : Q (tw l : Int) σ) : wX3_weightOf r σ Q := h.elim fun _ h => sp_weightOf h hl hq
theorem Vok_sub {l1 l2 : List KV} (h : Vok l2) (hs : ∀ p ∈ l1, p ∈ l2) : Vok l1 := fun p hp => h p (hs p hp)
theorem sp_turnedLeft {a1 a4 : Option Nat} {k v : Int} {lA lR : List KV} (hG : GI Z σ P) (ht : sn σ 1 2 + 3 ≤ TM) (hB : BT Z tp TM) (h1 : TT σ P a1 lA) (h4 : TT σ P a4 lR) (hne : lR ≠ []) (hA : tw lA ≤ 3 * tw lR) (hW : 3 * tw lR < 13 * tw lA) (hV : Vok (lA ++ (k, v) :: lR)) (hlen : (lA ++ (k, v) :: lR).length ≤ 1000)
    (hq : ∀ (r : Option Nat) (σ' : SS) (P' : Nat → Prop), GI Z σ' P' → Ext 3 σ P σ' P' → TT σ' P' r (lA ++ (k, v) :: lR) → Q r σ') : wX2_turnedLeft tp a1 k v a4 σ Q := by
  have hl2 : lA.length + lR.length + 1 ≤ 1000 := by simp only [List.length_append, List.length_cons] at hlen; omega
  unfold wX2_turnedLeft
  refine sp_weightOfT h1 (by omega) ⟨fun e => ?_, fun b e => ?_⟩
  · exact absurd ((TT_isnil h4).mp e) hne
  · subst e
    refine sp_weightOfT h4 (by omega) ?_
    refine sp_isBalanced rfl rfl (by unfold tw; omega) (by unfold tw; omega) (fun hb => ⟨fun c => absurd c (by decide), fun _ => ?_⟩) (fun hnb => ⟨fun _ => ?_, fun c => absurd rfl c⟩)
    · exact sp_nodeT hG (by omega) hB h1 h4 hV hlen hb (fun b' σ' P' g e t => hq _ σ' P' g (e.up (by omega)) t)
    · obtain ⟨x, y, hP, hx, hy, hl, -, -, hbxy⟩ := TT_some h4
      have hwR : tw lR = tw x + tw y := by rw [hl]; exact tw_app _ _ _
      have hlx : x.length + y.length + 1 = lR.length := by rw [hl]; simp; omega
      have px := tw_pos x
      have py := tw_pos y
      have pA := tw_pos lA
      have hbig : 3 * tw lA < tw lR := by unfold bal at hnb; omega
      obtain ⟨b1, b2⟩ := hbxy
      rw [hl] at hV
      obtain ⟨vA, vk, vR⟩ := Vok_app.mp hV
      obtain ⟨vx, vq, vy⟩ := Vok_app.mp vR
      -- the single turn
      have single : bal (tw lA) (tw x) → bal (tw lA + tw x) (tw y) → wX2_turnedLeft_L82 tp a1 k v (some b) Q (sf σ (b + 64) 4) σ := by
        intro s1 s2
        unfold wX2_turnedLeft_L82
        refine sp_nodeT hG (by omega) hB h1 hx (Vok_app.mpr ⟨vA, vk, vx⟩) (by simp; omega) s1 (fun b' σ' P' g e t => ⟨b, rfl, ?_⟩)
        rw [e.2.1 b hP 0 (by decide), e.2.1 b hP 1 (by decide), e.2.2.1 b hP 5 (Or.inr rfl)]
        refine sp_nodeT g (by have := e.tk; omega) hB t (e.TT hy) (Vok_app.mpr ⟨Vok_app.mpr ⟨vA, vk, vx⟩, vq, vy⟩) (by simp; omega) (by rw [tw_app]; exact s2) (fun b'' σ'' P'' g' e' t' => hq _ σ'' P'' g' (e.tr e' (by omega)) ?_)
        rw [hl]
        simpa using t'
      refine sp_weightOfT hx (by omega) ⟨fun e => ?_, fun b' e => ?_⟩
      · have hx0 : x = [] := (TT_isnil hx).mp e
        subst hx0
        refine single ?_ ?_ <;> (unfold bal tw at *; simp at *; omega)
      · have double : ¬ (bal (tw lA) (tw x) ∧ bal (tw lA + tw x) (tw y)) → wX2_turnedLeft_L111 tp a1 k v (some b) Q (sf σ (b + 64) 4) σ := by
          intro hns
          rw [e] at hx ⊢
          obtain ⟨x1, x2, hP', hx1, hx2, hlx', -, -, hbx⟩ := TT_some hx
          have hwx : tw x = tw x1 + tw x2 := by rw [hlx']; exact tw_app _ _ _
          have hlx2 : x1.length + x2.length + 1 = x.length := by rw [hlx']; simp; omega
          have p1 := tw_pos x1
          have p2 := tw_pos x2
          obtain ⟨b3, b4⟩ := hbx
          rw [hlx'] at vx
          obtain ⟨vx1, vq', vx2⟩ := Vok_app.mp vx
          unfold wX2_turnedLeft_L111
          refine ⟨b', rfl, b, rfl, ?_⟩
          refine sp_nodeT hG (by omega) hB hx2 hy (Vok_app.mpr ⟨vx2, vq, vy⟩) (by simp; omega) (by unfold bal at *; omega) (fun c σ' P' g e1 t => ?_)
          rw [e1.2.2.1 b' hP' 4 (Or.inl rfl)]
          refine sp_nodeT g (by have := e1.tk; omega) hB (e1.TT h1) (e1.TT hx1) (Vok_app.mpr ⟨vA, vk, vx1⟩) (by simp; omega) (by unfold bal at *; omega) (fun c2 σ2 P2 g2 e2 t2 => ?_)
          have e12 := e1.tr e2 (Int.le_refl _)
          rw [e12.2.1 b' hP' 0 (by decide), e12.2.1 b' hP' 1 (by decide)]
          refine sp_nodeT g2 (by have := e12.tk; omega) hB t2 (e2.TT t) (Vok_app.mpr ⟨Vok_app.mpr ⟨vA, vk, vx1⟩, vq', Vok_app.mpr ⟨vx2, vq, vy⟩⟩) (by simp; omega) (by rw [tw_app, tw_app]; unfold bal at *; omega) (fun c3 σ3 P3 g3 e3 t3 => hq _ σ3 P3 g3 (e12.tr e3 (by omega)) ?_)
          rw [hl, hlx']
          simpa using t3
        refine sp_isBalanced rfl rfl (by unfold tw; omega) (by unfold tw; omega) (fun hb1 => ⟨fun c => absurd c (by decide), fun _ => ?_⟩) (fun hb1 => ⟨fun _ => double (fun h => hb1 h.1), fun c => absurd rfl c⟩)
        refine sp_weightOfT hy (by omega) ⟨⟨by unfold tw; omega, by unfold tw; omega⟩, ?_⟩
        refine sp_isBalanced (a := tw lA + tw x) (by omega) rfl (by unfold tw; omega) (by unfold tw; omega) (fun hb2 => ⟨fun c => absurd c (by decide), fun _ => single hb1 hb2⟩) (fun hb2 => ⟨fun _ => double (fun h => hb2 h.2), fun c => absurd rfl c⟩)
theorem sp_turnedRight {a1 a4 : Option Nat} {k v : Int} {lL lA : List KV} (hG : GI Z σ P) (ht : sn σ 1 2 + 3 ≤ TM) (hB : BT Z tp TM) (h4 : TT σ P a4 lA) (h1 : TT σ P a1 lL) (hne : lL ≠ []) (hA : tw lA ≤ 3 * tw lL) (hW : 3 * tw lL < 13 * tw lA) (hV : Vok (lL ++ (k, v) :: lA)) (hlen : (lL ++ (k, v) :: lA).length ≤ 1000)
    (hq : ∀ (r : Option Nat) (σ' : SS) (P' : Nat → Prop), GI Z σ' P' → Ext 3 σ P σ' P' → TT σ' P' r (lL ++ (k, v) :: lA) → Q r σ') : wX2_turnedRight tp a1 k v a4 σ Q := by
  have hl2 : lA.length + lL.length + 1 ≤ 1000 := by simp only [List.length_append, List.length_cons] at hlen; omega
  unfold wX2_turnedRight
  refine sp_weightOfT h4 (by omega) ⟨fun e => ?_, fun b e => ?_⟩
  · exact absurd ((TT_isnil h1).mp e) hne
  · subst e
    refine sp_weightOfT h1 (by omega) ?_
    refine sp_isBalanced rfl rfl (by unfold tw; omega) (by unfold tw; omega) (fun hb => ⟨fun c => absurd c (by decide), fun _ => ?_⟩) (fun hnb => ⟨fun _ => ?_, fun c => absurd rfl c⟩)
    · exact sp_nodeT hG (by omega) hB h1 h4 hV hlen ⟨hb.2, hb.1⟩ (fun b' σ' P' g e t => hq _ σ' P' g (e.up (by omega)) t)
    · obtain ⟨y, x, hP, hy, hx, hl, -, -, hbxy⟩ := TT_some h1
      have hwR : tw lL = tw y + tw x := by rw [hl]; exact tw_app _ _ _
      have hlx : y.length + x.length + 1 = lL.length := by rw [hl]; simp; omega
      have px := tw_pos x
      have py := tw_pos y
      have pA := tw_pos lA
      have hbig : 3 * tw lA < tw lL := by unfold bal at hnb; omega
      obtain ⟨b1, b2⟩ := hbxy
      rw [hl] at hV
      obtain ⟨vL, vk, vA⟩ := Vok_app.mp hV
      obtain ⟨vy, vq, vx⟩ := Vok_app.mp vL
      have single : bal (tw lA) (tw x) → bal (tw lA + tw x) (tw y) → wX2_turnedRight_L79 tp (some b) k v a4 Q (sf σ (b + 64) 5) σ := by
        intro s1 s2
        unfold wX2_turnedRight_L79
        refine ⟨b, rfl, ?_⟩
        refine sp_nodeT hG (by omega) hB hx h4 (Vok_app.mpr ⟨vx, vk, vA⟩) (by simp; omega) ⟨s1.2, s1.1⟩ (fun b' σ' P' g e t => ?_)
        refine sp_nodeT g (by have := e.tk; omega) hB (e.TT hy) t (Vok_app.mpr ⟨vy, vq, Vok_app.mpr ⟨vx, vk, vA⟩⟩) (by simp; omega) (by rw [tw_app]; unfold bal at *; omega) (fun b'' σ'' P'' g' e' t' => hq _ σ'' P'' g' (e.tr e' (by omega)) ?_)
        rw [hl]
        simpa using t'
      refine sp_weightOfT hx (by omega) ⟨fun e => ?_, fun b' e => ?_⟩
      · have hx0 : x = [] := (TT_isnil hx).mp e
        subst hx0
        refine single ?_ ?_ <;> (unfold bal tw at *; simp at *; omega)
      · have double : ¬ (bal (tw lA) (tw x) ∧ bal (tw lA + tw x) (tw y)) → wX2_turnedRight_L106 tp (some b) k v a4 Q (sf σ (b + 64) 5) σ := by
          intro hns
          rw [e] at hx ⊢
          obtain ⟨x1, x2, hP', hx1, hx2, hlx', -, -, hbx⟩ := TT_some hx
          have hwx : tw x = tw x1 + tw x2 := by rw [hlx']; exact tw_app _ _ _
          have hlx2 : x1.length + x2.length + 1 = x.length := by rw [hlx']; simp; omega
          have p1 := tw_pos x1
          have p2 := tw_pos x2
          obtain ⟨b3, b4⟩ := hbx
          rw [hlx'] at vx
          obtain ⟨vx1, vq', vx2⟩ := Vok_app.mp vx
          unfold wX2_turnedRight_L106
          refine ⟨b, rfl, b', rfl, ?_⟩
          refine sp_nodeT hG (by omega) hB hy hx1 (Vok_app.mpr ⟨vy, vq, vx1⟩) (by simp; omega) (by unfold bal at *; omega) (fun c σ' P' g e1 t => ?_)
          rw [e1.2.2.1 b' hP' 5 (Or.inr rfl), e1.2.1 b' hP' 0 (by decide), e1.2.1 b' hP' 1 (by decide)]
          refine sp_nodeT g (by have := e1.tk; omega) hB (e1.TT hx2) (e1.TT h4) (Vok_app.mpr ⟨vx2, vk, vA⟩) (by simp; omega) (by unfold bal at *; omega) (fun c2 σ2 P2 g2 e2 t2 => ?_)
          have e12 := e1.tr e2 (Int.le_refl _)
          refine sp_nodeT g2 (by have := e12.tk; omega) hB (e2.TT t) t2 (Vok_app.mpr ⟨Vok_app.mpr ⟨vy, vq, vx1⟩, vq', Vok_app.mpr ⟨vx2, vk, vA⟩⟩) (by simp; omega) (by rw [tw_app, tw_app]; unfold bal at *; omega) (fun c3 σ3 P3 g3 e3 t3 => hq _ σ3 P3 g3 (e12.tr e3 (by omega)) ?_)
          rw [hl, hlx']
          simpa using t3
        refine sp_isBalanced rfl rfl (by unfold tw; omega) (by unfold tw; omega) (fun hb1 => ⟨fun c => absurd c (by decide), fun _ => ?_⟩) (fun hb1 => ⟨fun _ => double (fun h => hb1 h.1), fun c => absurd rfl c⟩)
        refine sp_weightOfT hy (by omega) ⟨⟨by unfold tw; omega, by unfold tw; omega⟩, ?_⟩
        refine sp_isBalanced (a := tw lA + tw x) (by omega) rfl (by unfold tw; omega) (by unfold tw; omega) (fun hb2 => ⟨fun c => absurd c (by decide), fun _ => single hb1 hb2⟩) (fun hb2 => ⟨fun _ => double (fun h => hb2 h.2), fun c => absurd rfl c⟩)
end
