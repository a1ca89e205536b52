/-! ints and longs by whole numbers: jI, lI; additions, products without bounds; comparisons, shifts, divisions in range -/
def jI (z : Int) : Int32 := Int32.ofInt z
def lI (z : Int) : Int64 := Int64.ofInt z
abbrev j3 (z : Int) : Prop := -2147483648 ≤ z ∧ z < 2147483648
abbrev l6 (z : Int) : Prop := -9223372036854775808 ≤ z ∧ z < 9223372036854775808
theorem jI_t {z : Int} (h : j3 z) : (jI z).toInt = z := Int32.toInt_ofInt_of_le (by have := h.1; omega) (by have := h.2; omega)
theorem lI_t {z : Int} (h : l6 z) : (lI z).toInt = z := Int64.toInt_ofInt_of_le (by have := h.1; omega) (by have := h.2; omega)
theorem j3_t (x : Int32) : j3 x.toInt := ⟨by have := Int32.le_toInt x; omega, by have := Int32.toInt_lt x; omega⟩
theorem l6_t (x : Int64) : l6 x.toInt := ⟨by have := Int64.le_toInt x; omega, by have := Int64.toInt_lt x; omega⟩
theorem jI_of (x : Int32) : x = jI x.toInt := (Int32.ofInt_toInt x).symm
theorem lI_of (x : Int64) : x = lI x.toInt := (Int64.ofInt_toInt x).symm
theorem jI_ex (x : Int32) : ∃ z, j3 z ∧ x = jI z := ⟨x.toInt, j3_t x, jI_of x⟩
theorem lI_ex (x : Int64) : ∃ z, l6 z ∧ x = lI z := ⟨x.toInt, l6_t x, lI_of x⟩
theorem jI_add (a b : Int) : jI a + jI b = jI (a + b) := (Int32.ofInt_add a b).symm
theorem jI_sub (a b : Int) : jI a - jI b = jI (a - b) := (Int32.ofInt_sub a b).symm
theorem jI_mul (a b : Int) : jI a * jI b = jI (a * b) := (Int32.ofInt_mul a b).symm
theorem jI_neg (a : Int) : -jI a = jI (-a) := (Int32.ofInt_neg a).symm
theorem lI_add (a b : Int) : lI a + lI b = lI (a + b) := (Int64.ofInt_add a b).symm
theorem lI_sub (a b : Int) : lI a - lI b = lI (a - b) := (Int64.ofInt_sub a b).symm
theorem lI_mul (a b : Int) : lI a * lI b = lI (a * b) := (Int64.ofInt_mul a b).symm
theorem lI_neg (a : Int) : -lI a = lI (-a) := (Int64.ofInt_neg a).symm
theorem jI_n (n : Nat) : nI n = jI n := Int32.ofInt_eq_ofNat.symm
theorem lI_n (n : Nat) : lN n = lI n := Int64.ofInt_eq_ofNat.symm
theorem jI_lt {a b : Int} (ha : j3 a) (hb : j3 b) : jI a < jI b ↔ a < b := by rw [Int32.lt_iff_toInt_lt, jI_t ha, jI_t hb]
theorem jI_le {a b : Int} (ha : j3 a) (hb : j3 b) : jI a ≤ jI b ↔ a ≤ b := by rw [Int32.le_iff_toInt_le, jI_t ha, jI_t hb]
theorem jI_eq {a b : Int} (ha : j3 a) (hb : j3 b) : jI a = jI b ↔ a = b := by rw [← Int32.toInt_inj, jI_t ha, jI_t hb]
theorem lI_lt {a b : Int} (ha : l6 a) (hb : l6 b) : lI a < lI b ↔ a < b := by rw [Int64.lt_iff_toInt_lt, lI_t ha, lI_t hb]
theorem lI_le {a b : Int} (ha : l6 a) (hb : l6 b) : lI a ≤ lI b ↔ a ≤ b := by rw [Int64.le_iff_toInt_le, lI_t ha, lI_t hb]
theorem lI_eq {a b : Int} (ha : l6 a) (hb : l6 b) : lI a = lI b ↔ a = b := by rw [← Int64.toInt_inj, lI_t ha, lI_t hb]
theorem jI_c {z : Int} (h : j3 z) (h0 : 0 ≤ z) : (jI z).toNatClampNeg = z.toNat := by
  show (jI z).toInt.toNat = _
  rw [jI_t h]
theorem jI_l {z : Int} (h : j3 z) : (jI z).toInt64 = lI z := by
  rw [← Int64.toInt_inj, Int32.toInt_toInt64, jI_t h, lI_t ⟨by have := h.1; omega, by have := h.2; omega⟩]
theorem lI_i (z : Int) : (lI z).toInt32 = jI z := by
  apply Int32.toBitVec.inj
  show BitVec.signExtend 32 (BitVec.ofInt 64 z) = BitVec.ofInt 32 z
  apply BitVec.eq_of_getLsbD_eq
  intro i hi
  rw [BitVec.getLsbD_signExtend]
  simp [BitVec.getLsbD_ofInt, hi, show i < 64 by omega]
theorem jI_d {a b : Int} (ha : j3 a) (hb : j3 b) (h : b ≠ -1) : jI a / jI b = jI (a.tdiv b) := by
  rw [← Int32.toInt_inj, Int32.toInt_div_of_ne_right _ _ (fun q => h ?_), jI_t ha, jI_t hb]
  · refine (jI_t ?_).symm
    have h1 := Int.natAbs_tdiv_le_natAbs a b
    by_cases h0 : a = -2147483648
    · subst h0
      rcases Int.lt_trichotomy b 0 with hb0 | hb0 | hb0
      · have h2 : b ≤ -2 := by omega
        have h3 : (-2147483648 : Int).tdiv b = (2147483648 : Int).tdiv (-b) := by rw [Int.neg_tdiv, ← Int.tdiv_neg]
        have h4 : (2147483648 : Int).tdiv (-b) ≤ (2147483648 : Int).tdiv 2 := by
          rw [Int.tdiv_eq_ediv_of_nonneg (by decide), Int.tdiv_eq_ediv_of_nonneg (by decide)]
          exact Int.ediv_le_ediv_of_nonneg_left' (by decide) (by omega)
        have h5 : (0 : Int) ≤ (2147483648 : Int).tdiv (-b) := Int.tdiv_nonneg (by decide) (by omega)
        rw [h3]
        exact ⟨by omega, by have : (2147483648 : Int).tdiv 2 = 1073741824 := by decide
                            omega⟩
      · subst hb0; simp
      · have h5 : (-2147483648 : Int).tdiv b ≤ 0 := by rw [Int.neg_tdiv]; have := Int.tdiv_nonneg (a := 2147483648) (b := b) (by decide) (by omega); omega
        exact ⟨by omega, by omega⟩
    · exact ⟨by omega, by omega⟩
  · have := jI_t hb
    rw [q] at this
    rw [← this]
    decide
/-- literals -/
theorem jI_0 : (0 : Int32) = jI 0 := by decide
theorem jI_1 : (1 : Int32) = jI 1 := by decide
theorem jI_m1 : (-1 : Int32) = jI (-1) := by decide
