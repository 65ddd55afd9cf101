def wX2_isBalanced (a0 : Int) (a1 : Int) (σ : SS) (Q : Int → SS → Prop) : Prop := (R32 ((3 * a1)) ∧ (((3 * a1) < a0 → Q 0 (σ)) ∧ (¬ (3 * a1) < a0 → (R32 ((3 * a0)) ∧ (((3 * a0) < a1 → Q 0 (σ)) ∧ (¬ (3 * a0) < a1 → Q 1 (σ)))))))
def wX3_find_L2 (a0 : Option Nat) (a1 : Int) (Q : Option Nat → SS → Prop)  : Nat → Option Nat → SS → Prop
  | 0, _, _ => False
  | k + 1, v2, sL => ((v2 = none → Q v2 (sL)) ∧ (∀ b2, v2 = some b2 → ((((sn sL (b2 + 64) 0) = a1 → Q v2 (sL)) ∧ (¬ (sn sL (b2 + 64) 0) = a1 → ((((sn sL (b2 + 64) 0) ≤ a1 → (wX3_find_L2 a0 a1 Q  k ((sf sL (b2 + 64) 5)) (sL))) ∧ (¬ (sn sL (b2 + 64) 0) ≤ a1 → (wX3_find_L2 a0 a1 Q  k ((sf sL (b2 + 64) 4)) (sL))))))))))
def wX3_find (a0 : Option Nat) (a1 : Int) (σ : SS) (Q : Option Nat → SS → Prop) : Prop := (∃ kk, wX3_find_L2 a0 a1 Q  kk (a0) (σ))
def wX3_countOf (a0 : Option Nat) (σ : SS) (Q : Int → SS → Prop) : Prop := ((a0 = none → Q 0 (σ)) ∧ (∀ b2, a0 = some b2 → Q (sn σ (b2 + 64) 2) (σ)))
def wX3_weightOf (a0 : Option Nat) (σ : SS) (Q : Int → SS → Prop) : Prop := (wX3_countOf a0 σ (fun r2 s1 => (R32 ((r2 + 1)) ∧ Q (r2 + 1) (s1))))
