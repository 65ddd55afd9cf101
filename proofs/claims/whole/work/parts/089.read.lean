/-! ===== sums: the class reads a text ===== -/
theorem PV_stp {t : List Int} {s s' : PSt} (h : PV t s) (hi : s.1 < t.length) (hs : stp t s = some s') : PV t s' := by
  have hlt := stp_lt hi hs
  obtain ⟨i, w, tg, q, k, g, d⟩ := s
  unfold PV at h
  dsimp only at h hi hlt
  obtain ⟨h1, h2, h3, h4, h5, h6, h7, h8, h9, h10, h11, h12, h13⟩ := h
  rw [stp] at hs
  by_cases w0 : w = 0
  · rw [if_pos w0] at hs
    split at hs
    · rename_i c
      cases hs
      obtain ⟨rfl, rfl⟩ := h8 (by omega)
      refine ⟨by dsimp only; omega, by dsimp only; omega, by dsimp only; omega, h4, h5, h6, h7, fun _ => ⟨rfl, rfl⟩, fun z => by dsimp only at z; omega, fun z => by dsimp only at z; omega, fun z => by dsimp only at z; omega, fun z => by dsimp only at z; omega, ?_⟩
      dsimp only at h13 ⊢
      rw [if_neg (by omega)] at h13 ⊢; omega
    · cases hs
  rw [if_neg w0] at hs
  by_cases w1 : w = 1
  · rw [if_pos w1] at hs
    split at hs
    · cases hs
      obtain ⟨rfl, rfl⟩ := h8 (by omega)
      refine ⟨by dsimp only; omega, by dsimp only; omega, h3, h4, h5, h6, h7, fun z => by dsimp only at z; omega, fun _ => by simp [wf, sg], fun z => by dsimp only at z; omega, fun z => by dsimp only at z; omega, fun z => by dsimp only at z; omega, ?_⟩
      dsimp only at h13 ⊢
      rw [if_neg (by omega)] at h13 ⊢; omega
    · cases hs
  rw [if_neg w1] at hs
  have h9' := h9 (by omega)
  by_cases w2 : w = 2
  · rw [if_pos w2] at hs
    rw [if_neg (by omega)] at h9' h13
    split at hs
    · rename_i c
      cases hs
      refine ⟨by dsimp only; omega, by dsimp only; omega, h3, h4, okT_app h5 (fun y hy => by rw [List.mem_singleton.mp hy]; exact Or.inr (Or.inl ⟨rfl, _, ⟨by omega, by omega⟩, rfl⟩)), h6, h7, fun z => by dsimp only at z; omega, fun _ => ?_, fun z => by dsimp only at z; omega, fun z => by dsimp only at z; omega, fun z => by dsimp only at z; omega, ?_⟩
      · dsimp only
        rw [wf_app, h9', if_pos rfl]; simp [wf]
      · dsimp only
        rw [if_neg (by omega), flT_app, List.length_append, stc_app]
        simp [flT, stc]; unfold stc at h13; omega
    · split at hs
      · cases hs
        refine ⟨by dsimp only; omega, by dsimp only; omega, h3, fun s hs => ?_, h5, h6, h7, fun z => by dsimp only at z; omega, fun _ => ?_, fun z => by dsimp only at z; omega, fun z => by dsimp only at z; omega, fun z => by dsimp only at z; omega, ?_⟩
        · rcases List.mem_cons.mp hs with rfl | hs
          · omega
          · exact h4 s hs
        · dsimp only
          rw [h9', sg_cons, if_pos rfl, if_neg (by omega)]
        · dsimp only
          rw [if_neg (by omega), List.length_cons]; omega
      · split at hs
        · cases hs
          refine ⟨by dsimp only; omega, by dsimp only; omega, h3, h4, h5, fun v hv => (by cases hv), h7, fun z => by dsimp only at z; omega, fun _ => ?_, fun _ => rfl, fun z => by dsimp only at z; omega, fun z => by dsimp only at z; omega, ?_⟩
          · dsimp only
            rw [h9', if_neg (by omega)]
          · dsimp only
            rw [if_pos (by omega), List.length_nil]; omega
        · cases hs
  rw [if_neg w2] at hs
  by_cases w3 : w = 3
  · rw [if_pos w3] at hs
    rw [if_pos w3] at h9'
    rw [if_neg (by omega)] at h13
    split at hs
    · rename_i s hsg
      cases hs
      have hr := sgn_in hsg
      obtain ⟨p1, p2, p3, p4⟩ := popW_tok hr.2.2 h4
      have p0 := (popW_ok (l := str s) h4).1
      refine ⟨by dsimp only; omega, by dsimp only; omega, h3, fun x hx => ?_, okT_app h5 (fun y hy => (p1 y hy).1), h6, h7, fun z => by dsimp only at z; omega, fun _ => ?_, fun z => by dsimp only at z; omega, fun z => by dsimp only at z; omega, fun z => by dsimp only at z; omega, ?_⟩
      · rcases List.mem_cons.mp hx with rfl | hx
        · omega
        · exact p0 x hx
      · dsimp only
        have := p2 0
        rw [Nat.zero_add, Nat.zero_add] at this
        rw [wf_app, h9', sg_cons, if_neg (show ¬ s = -1 by omega), if_neg (by omega)]
        exact this
      · dsimp only
        rw [if_neg (by omega), flT_app, List.length_append, stc_app, List.length_cons, p4]; omega
    · split at hs
      · split at hs
        · rename_i hm
          cases hs
          obtain ⟨p1, p2, p3, p4⟩ := popW_tok (Int.le_refl 1) h4
          have p0 := (popW_ok (l := 1) h4).1
          obtain ⟨z, hz⟩ := (popW_one h4).2 hm
          refine ⟨by dsimp only; omega, by dsimp only; omega, h3, fun x hx => p0 x (List.mem_of_mem_tail hx), okT_app h5 (fun y hy => (p1 y hy).1), h6, h7, fun z => by dsimp only at z; omega, fun _ => ?_, fun z => by dsimp only at z; omega, fun z => by dsimp only at z; omega, fun z => by dsimp only at z; omega, ?_⟩
          · dsimp only
            have := p2 0
            rw [Nat.zero_add, Nat.zero_add] at this
            rw [wf_app, h9', if_pos rfl]
            rw [hz] at this ⊢
            rw [sg_cons, if_pos rfl] at this
            exact this
          · dsimp only
            rw [if_neg (by omega), flT_app, List.length_append, stc_app, p4]
            rw [hz] at p3 ⊢
            rw [List.length_cons] at p3
            rw [List.tail_cons]; omega
        · cases hs
      · split at hs
        · split at hs
          · cases hs
          · rename_i hm
            cases hs
            obtain ⟨p1, p2, p3, p4⟩ := popW_tok (Int.le_refl 1) h4
            have hz := (popW_one h4).1 hm
            refine ⟨by dsimp only; omega, by dsimp only; omega, h3, fun x hx => (by cases hx), fun y hy => (by cases hy), h6, fun x hx => ?_, fun _ => ⟨rfl, rfl⟩, fun z => by dsimp only at z; omega, fun z => by dsimp only at z; omega, fun z => by dsimp only at z; omega, fun z => by dsimp only at z; omega, ?_⟩
            · rcases List.mem_append.mp hx with hx | hx
              · exact h7 x hx
              · rw [List.mem_singleton.mp hx]
                refine ⟨h3, okT_app h5 (fun y hy => (p1 y hy).1), ?_⟩
                have := p2 0
                rw [Nat.zero_add, Nat.zero_add] at this
                dsimp only
                rw [wf_app, h9']
                rw [hz] at this
                exact this
            · dsimp only
              rw [hz, List.length_nil] at p3
              rw [if_neg (by omega), flD_app, List.length_append, flD, flD, List.length_append, flT_app, List.length_append]
              simp only [List.length_cons, List.length_nil, flT, stc, List.filter_nil]
              omega
        · cases hs
  rw [if_neg w3] at hs
  rw [if_neg w3] at h9'
  rw [if_pos (by omega)] at h13
  by_cases w4 : w = 4 ∧ bt t i = 125
  · rw [if_pos w4] at hs
    cases hs
    refine ⟨by dsimp only; omega, by dsimp only; omega, h3, h4, okT_app h5 (fun y hy => by rw [List.mem_singleton.mp hy]; exact Or.inr (Or.inr ⟨rfl, by simp, fun v hv => (by cases hv)⟩)), h6, h7, fun z => by dsimp only at z; omega, fun _ => ?_, fun z => by dsimp only at z; omega, fun z => by dsimp only at z; omega, fun z => by dsimp only at z; omega, ?_⟩
    · dsimp only
      rw [wf_app, h9', if_pos rfl]; simp [wf]
    · dsimp only
      rw [if_neg (by omega), flT_app, List.length_append, stc_app]
      simp [flT, stc]; unfold stc at h13; omega
  rw [if_neg w4] at hs
  by_cases w45 : w = 4 ∨ w = 5
  · rw [if_pos w45] at hs
    split at hs
    · rename_i v e hn
      cases hs
      have hb := nmb_lt hi hn
      have hv := nmb_in hn
      have hgl : g.length < 8 := by
        rcases w45 with z | z
        · rw [h10 z]; simp
        · exact h11 z
      refine ⟨by dsimp only; omega, by dsimp only; omega, h3, h4, h5, fun x hx => ?_, h7, fun z => by dsimp only at z; omega, fun _ => ?_, fun z => by dsimp only at z; omega, fun z => by dsimp only at z; omega, fun _ => ?_, ?_⟩
      · rcases List.mem_append.mp hx with hx | hx
        · exact h6 x hx
        · rw [List.mem_singleton.mp hx]; exact hv
      · dsimp only
        rw [h9', if_neg (by omega)]
      · dsimp only
        rw [List.length_append, List.length_singleton]; omega
      · dsimp only
        rw [if_pos (by omega), List.length_append, List.length_singleton]; omega
    · cases hs
  rw [if_neg w45] at hs
  have w6 : w = 6 := by omega
  split at hs
  · cases hs
    refine ⟨by dsimp only; omega, by dsimp only; omega, h3, h4, okT_app h5 (fun y hy => by rw [List.mem_singleton.mp hy]; exact Or.inr (Or.inr ⟨rfl, h12 w6, h6⟩)), h6, h7, fun z => by dsimp only at z; omega, fun _ => ?_, fun z => by dsimp only at z; omega, fun z => by dsimp only at z; omega, fun z => by dsimp only at z; omega, ?_⟩
    · dsimp only
      rw [wf_app, h9', if_pos rfl]; simp [wf]
    · dsimp only
      rw [if_neg (by omega), flT_app, List.length_append, stc_app]
      simp [flT, stc]; unfold stc at h13; omega
  · split at hs
    · rename_i hc
      cases hs
      refine ⟨by dsimp only; omega, by dsimp only; omega, h3, h4, h5, h6, h7, fun z => by dsimp only at z; omega, fun _ => ?_, fun z => by dsimp only at z; omega, fun _ => hc.2, fun z => by dsimp only at z; omega, ?_⟩
      · dsimp only
        rw [h9', if_neg (by omega)]
      · dsimp only
        rw [if_pos (by omega)]; omega
    · cases hs
theorem PV_sp {t : List Int} {i w : Nat} {tg : Int} {q : List Int} {k : List Tok} {g : List Int} {d : List (Int × List Tok)} (h : PV t (i, w, tg, q, k, g, d)) (hi : i < t.length) : PV t (i + 1, w, tg, q, k, g, d) := by
  unfold PV at *
  dsimp only at *
  obtain ⟨h1, h2, h3, h4, h5, h6, h7, h8, h9, h10, h11, h12, h13⟩ := h
  exact ⟨by omega, h2, h3, h4, h5, h6, h7, h8, h9, h10, h11, h12, by omega⟩
def ps0 : PSt := (0, 0, 0, [], [], [], [])
theorem PV_0 (t : List Int) : PV t ps0 := by
  unfold PV ps0
  refine ⟨by simp, by simp, by dsimp only; omega, fun x hx => (by cases hx), fun x hx => (by cases hx), fun x hx => (by cases hx), fun x hx => (by cases hx), fun _ => ⟨rfl, rfl⟩, fun z => by dsimp only at z; omega, fun z => by dsimp only at z; omega, fun z => by dsimp only at z; omega, fun z => by dsimp only at z; omega, by simp [flD, flT, stc]⟩
