/-! ===== numbers: the machine's ints and longs by whole numbers ===== -/
section
def iI (z : Int) : Int32 := Int32.ofInt z
def lI (z : Int) : Int64 := Int64.ofInt z
abbrev R32 (z : Int) : Prop := -2147483648 ≤ z ∧ z ≤ 2147483647
abbrev R64 (z : Int) : Prop := -9223372036854775808 ≤ z ∧ z ≤ 9223372036854775807
theorem iI_int {z : Int} (h : R32 z) : (iI z).toInt = z := Int32.toInt_ofInt_of_le (Int.le_trans (by decide) h.1) (Int.lt_of_le_of_lt h.2 (by decide))
theorem lI_int {z : Int} (h : R64 z) : (lI z).toInt = z := Int64.toInt_ofInt_of_le (Int.le_trans (by decide) h.1) (Int.lt_of_le_of_lt h.2 (by decide))
theorem iI_lt {a b : Int} (ha : R32 a) (hb : R32 b) : iI a < iI b ↔ a < b := by rw [Int32.lt_iff_toInt_lt, iI_int ha, iI_int hb]
theorem iI_le {a b : Int} (ha : R32 a) (hb : R32 b) : iI a ≤ iI b ↔ a ≤ b := by rw [Int32.le_iff_toInt_le, iI_int ha, iI_int hb]
theorem iI_eq {a b : Int} (ha : R32 a) (hb : R32 b) : iI a = iI b ↔ a = b := ⟨fun h => by rw [← iI_int ha, h, iI_int hb], fun h => by rw [h]⟩
theorem lI_lt {a b : Int} (ha : R64 a) (hb : R64 b) : lI a < lI b ↔ a < b := by rw [Int64.lt_iff_toInt_lt, lI_int ha, lI_int hb]
theorem lI_eq {a b : Int} (ha : R64 a) (hb : R64 b) : lI a = lI b ↔ a = b := ⟨fun h => by rw [← lI_int ha, h, lI_int hb], fun h => by rw [h]⟩
theorem iI_add (a b : Int) : iI a + iI b = iI (a + b) := (Int32.ofInt_add a b).symm
theorem iI_sub (a b : Int) : iI a - iI b = iI (a - b) := (Int32.ofInt_sub a b).symm
theorem iI_mul (a b : Int) : iI a * iI b = iI (a * b) := (Int32.ofInt_mul a b).symm
theorem iI_neg (a : Int) : -iI a = iI (-a) := (Int32.ofInt_neg a).symm
theorem lI_add (a b : Int) : lI a + lI b = lI (a + b) := (Int64.ofInt_add a b).symm
theorem lI_sub (a b : Int) : lI a - lI b = lI (a - b) := (Int64.ofInt_sub a b).symm
theorem lI_mul (a b : Int) : lI a * lI b = lI (a * b) := (Int64.ofInt_mul a b).symm
theorem iI_of (x : Int32) : x = iI x.toInt ∧ R32 x.toInt := ⟨(Int32.ofInt_toInt x).symm, x.le_toInt, by have := x.toInt_lt; omega⟩
theorem iI_long {z : Int} (h : R32 z) : (iI z).toInt64 = lI z := Int32.toInt64_ofInt (Int.le_trans (by decide) h.1) (Int.le_trans h.2 (by decide))
theorem lI_short (z : Int) : (lI z).toInt32 = iI z := Int64.toInt32_ofInt
theorem iI_clamp {z : Int} (h0 : 0 ≤ z) (h : z ≤ 2147483647) : (iI z).toNatClampNeg = z.toNat := by
  show (iI z).toInt.toNat = z.toNat
  rw [iI_int ⟨by omega, h⟩]
theorem iI_in {z : Int} {n : Nat} (h0 : 0 ≤ z) (h : z < n) (hn : n < 2147483648) : vp_in (iI z) n := by
  rw [vp_in_iff, iI_int ⟨by omega, by omega⟩]
  exact ⟨h0, h⟩
theorem tdiv_in {a b : Int} (ha : R32 a) (hb : 0 < b) : R32 (a.tdiv b) := by
  by_cases h : 0 ≤ a
  · rw [Int.tdiv_eq_ediv_of_nonneg h]
    have h1 := Int.ediv_nonneg h (Int.le_of_lt hb)
    have h2 := Int.ediv_le_self b h
    exact ⟨by omega, by omega⟩
  · have h0 : 0 ≤ -a := by omega
    have e : a.tdiv b = -((-a) / b) := by rw [← Int.tdiv_eq_ediv_of_nonneg h0, Int.neg_tdiv, Int.neg_neg]
    rw [e]
    have h1 := Int.ediv_nonneg h0 (Int.le_of_lt hb)
    have h2 := Int.ediv_le_self b h0
    exact ⟨by omega, by omega⟩
theorem iI_div {a b : Int} (ha : R32 a) (hb : R32 b) (hn : 0 < b) : iI a / iI b = iI (a.tdiv b) := by
  apply Int32.toInt_inj.mp
  rw [Int32.toInt_div_of_ne_right]
  · rw [iI_int ha, iI_int hb, iI_int (tdiv_in ha hn)]
  · intro h
    have h2 := congrArg Int32.toInt h
    rw [iI_int hb] at h2
    rw [h2] at hn
    exact absurd hn (by decide)
theorem iI_rem {a b : Int} (ha : R32 a) (hb : R32 b) (hn : 0 < b) : iI a - iI a / iI b * iI b = iI (a.tmod b) := by
  rw [iI_div ha hb hn, iI_mul, iI_sub]
  congr 1
  have := Int.tmod_def a b
  rw [this, Int.mul_comm]
theorem iI_ne0 {b : Int} (hb : R32 b) (h : b ≠ 0) : ¬ iI b = 0 := fun e => h ((iI_eq hb ⟨by decide, by decide⟩).mp e)
theorem lI_ne0 {b : Int} (hb : R64 b) (h : b ≠ 0) : ¬ lI b = 0 := fun e => h ((lI_eq hb ⟨by decide, by decide⟩).mp e)
theorem lI_div {a b : Int} (ha : R64 a) (hb : R64 b) (h0 : 0 ≤ a) (hn : 0 < b) : lI a / lI b = lI (a / b) := by
  apply Int64.toInt_inj.mp
  rw [Int64.toInt_div_of_ne_right]
  · rw [lI_int ha, lI_int hb, Int.tdiv_eq_ediv_of_nonneg h0]
    refine (lI_int ⟨?_, ?_⟩).symm
    · have := Int.ediv_nonneg h0 (Int.le_of_lt hn); omega
    · have := Int.ediv_le_self b h0; omega
  · intro h
    have h2 := congrArg Int64.toInt h
    rw [lI_int hb] at h2
    rw [h2] at hn
    exact absurd hn (by decide)
theorem lI_rem {a b : Int} (ha : R64 a) (hb : R64 b) (h0 : 0 ≤ a) (hn : 0 < b) : lI a - lI a / lI b * lI b = lI (a % b) := by
  rw [lI_div ha hb h0 hn, lI_mul, lI_sub]
  congr 1
  have := Int.emod_def a b
  rw [this, Int.mul_comm]
end
