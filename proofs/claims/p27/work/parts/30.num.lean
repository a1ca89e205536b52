/-! ints and longs by whole numbers: jI, lI; additions, products without bounds; comparisons, shifts, divisions in range -/
def jI (z : Int) : Int32 := Int32.ofInt z
def lI (z : Int) : Int64 := Int64.ofInt z
abbrev j3 (z : Int) : Prop := -2147483648 ≤ z ∧ z < 2147483648
abbrev l6 (z : Int) : Prop := -9223372036854775808 ≤ z ∧ z < 9223372036854775808
theorem jI_t {z : Int} (h : j3 z) : (jI z).toInt = z := Int32.toInt_ofInt_of_le (by have := h.1; omega) (by have := h.2; omega)
theorem lI_t {z : Int} (h : l6 z) : (lI z).toInt = z := Int64.toInt_ofInt_of_le (by have := h.1; omega) (by have := h.2; omega)
theorem j3_t (x : Int32) : j3 x.toInt := ⟨by have := Int32.le_toInt x; omega, by have := Int32.toInt_lt x; omega⟩
theorem l6_t (x : Int64) : l6 x.toInt := ⟨by have := Int64.le_toInt x; omega, by have := Int64.toInt_lt x; omega⟩
theorem jI_of (x : Int32) : x = jI x.toInt := (Int32.ofInt_toInt x).symm
theorem lI_of (x : Int64) : x = lI x.toInt := (Int64.ofInt_toInt x).symm
theorem jI_ex (x : Int32) : ∃ z, j3 z ∧ x = jI z := ⟨x.toInt, j3_t x, jI_of x⟩
theorem lI_ex (x : Int64) : ∃ z, l6 z ∧ x = lI z := ⟨x.toInt, l6_t x, lI_of x⟩
theorem jI_add (a b : Int) : jI a + jI b = jI (a + b) := (Int32.ofInt_add a b).symm
theorem jI_sub (a b : Int) : jI a - jI b = jI (a - b) := (Int32.ofInt_sub a b).symm
theorem jI_mul (a b : Int) : jI a * jI b = jI (a * b) := (Int32.ofInt_mul a b).symm
theorem jI_neg (a : Int) : -jI a = jI (-a) := (Int32.ofInt_neg a).symm
theorem lI_add (a b : Int) : lI a + lI b = lI (a + b) := (Int64.ofInt_add a b).symm
theorem lI_sub (a b : Int) : lI a - lI b = lI (a - b) := (Int64.ofInt_sub a b).symm
theorem lI_mul (a b : Int) : lI a * lI b = lI (a * b) := (Int64.ofInt_mul a b).symm
theorem lI_neg (a : Int) : -lI a = lI (-a) := (Int64.ofInt_neg a).symm
theorem jI_n (n : Nat) : nI n = jI n := Int32.ofInt_eq_ofNat.symm
theorem lI_n (n : Nat) : lN n = lI n := Int64.ofInt_eq_ofNat.symm
theorem jI_lt {a b : Int} (ha : j3 a) (hb : j3 b) : jI a < jI b ↔ a < b := by rw [Int32.lt_iff_toInt_lt, jI_t ha, jI_t hb]
theorem jI_le {a b : Int} (ha : j3 a) (hb : j3 b) : jI a ≤ jI b ↔ a ≤ b := by rw [Int32.le_iff_toInt_le, jI_t ha, jI_t hb]
theorem jI_eq {a b : Int} (ha : j3 a) (hb : j3 b) : jI a = jI b ↔ a = b := by rw [← Int32.toInt_inj, jI_t ha, jI_t hb]
theorem lI_lt {a b : Int} (ha : l6 a) (hb : l6 b) : lI a < lI b ↔ a < b := by rw [Int64.lt_iff_toInt_lt, lI_t ha, lI_t hb]
theorem lI_le {a b : Int} (ha : l6 a) (hb : l6 b) : lI a ≤ lI b ↔ a ≤ b := by rw [Int64.le_iff_toInt_le, lI_t ha, lI_t hb]
theorem lI_eq {a b : Int} (ha : l6 a) (hb : l6 b) : lI a = lI b ↔ a = b := by rw [← Int64.toInt_inj, lI_t ha, lI_t hb]
theorem jI_c {z : Int} (h : j3 z) (h0 : 0 ≤ z) : (jI z).toNatClampNeg = z.toNat := by
  show (jI z).toInt.toNat = _
  rw [jI_t h]
theorem jI_l {z : Int} (h : j3 z) : (jI z).toInt64 = lI z := by
  rw [← Int64.toInt_inj, Int32.toInt_toInt64, jI_t h, lI_t ⟨by have := h.1; omega, by have := h.2; omega⟩]
theorem lI_i (z : Int) : (lI z).toInt32 = jI z := Int64.toInt32_ofInt
theorem jI_d {a b : Int} (ha : j3 a) (ha2 : -2147483648 < a) (hb : j3 b) (h : b ≠ -1) : jI a / jI b = jI (a.tdiv b) := by
  have h1 := Int.natAbs_tdiv_le_natAbs a b
  rw [← Int32.toInt_inj, Int32.toInt_div_of_ne_right _ _ (fun q => h ?_), jI_t ha, jI_t hb]
  · exact (jI_t ⟨by omega, by omega⟩).symm
  · have := jI_t hb
    rw [q] at this
    rw [← this]
    decide
theorem lI_d {a b : Int} (ha : l6 a) (ha2 : -9223372036854775808 < a) (hb : l6 b) (h : b ≠ -1) : lI a / lI b = lI (a.tdiv b) := by
  have h1 := Int.natAbs_tdiv_le_natAbs a b
  rw [← Int64.toInt_inj, Int64.toInt_div_of_ne_right _ _ (fun q => h ?_), lI_t ha, lI_t hb]
  · exact (lI_t ⟨by omega, by omega⟩).symm
  · have := lI_t hb
    rw [q] at this
    rw [← this]
    decide
/-! shifts and masks -/
theorem sh_l : ∀ n, n < 32 → ((jI (n : Nat) &&& 31).toBitVec.smod 32).toNat = n := by decide +kernel
theorem sh_u : ∀ n, n < 32 → (((jI (n : Nat)).toUInt32 &&& Int32.toUInt32 31).toBitVec % 32).toNat = n := by decide +kernel
theorem jI_bv (z : Int) : ((jI z).toBitVec.toNat : Int) = z % 4294967296 := by
  show (((BitVec.ofInt 32 z).toNat : Nat) : Int) = _
  rw [BitVec.toNat_ofInt]
  omega
theorem jI_shl (z : Int) {k : Nat} (hk : k < 32) : jI z <<< (jI (k : Nat) &&& 31) = jI (z * (2 ^ k : Nat)) := by
  apply Int32.toBitVec.inj
  apply BitVec.eq_of_toNat_eq
  have h1 := pk_shl (jI z) (jI (k : Nat) &&& 31) k (sh_l k hk)
  have h2 := jI_bv z
  have h3 := jI_bv (z * (2 ^ k : Nat))
  rw [h1]
  apply Int.ofNat.inj
  show (((jI z).toBitVec.toNat * 2 ^ k % 2 ^ 32 : Nat) : Int) = ((jI (z * (2 ^ k : Nat))).toBitVec.toNat : Int)
  rw [h3, Int.natCast_emod, Int.natCast_mul, h2]
  show (z % 4294967296 * _) % 4294967296 = _
  rw [Int.mul_emod, Int.emod_emod_of_dvd _ (Int.dvd_refl _), ← Int.mul_emod]
theorem jI_shr {z : Int} (hz : j3 z) {k : Nat} (hk : k < 32) : jI z >>> (jI (k : Nat) &&& 31) = jI (z / (2 ^ k : Nat)) := by
  have h1 := pk_shr (jI z) (jI (k : Nat) &&& 31) k (sh_l k hk)
  rw [jI_t hz, Int.shiftRight_eq_div_pow] at h1
  rw [← Int32.toInt_inj, h1]
  refine (jI_t ?_).symm
  have hp : 0 < 2 ^ k := Nat.two_pow_pos k
  generalize 2 ^ k = d at hp ⊢
  constructor
  · have := Int.le_ediv_of_mul_le (a := -2147483648) (b := z) (c := (d : Int)) (by omega) (by have : (-2147483648 : Int) * d ≤ -2147483648 * 1 := Int.mul_le_mul_of_nonpos_left (by decide) (by omega); omega)
    exact this
  · have := Int.ediv_lt_of_lt_mul (a := z) (b := 2147483648) (c := (d : Int)) (by omega) (by have : (2147483648 : Int) * 1 ≤ 2147483648 * d := Int.mul_le_mul_of_nonneg_left (by omega) (by decide); omega)
    exact this
theorem jI_and (z : Int) {k : Nat} {m : Int32} (hm : m.toBitVec.toNat = 2 ^ k - 1) (hk : k ≤ 31) : jI z &&& m = jI (z % (2 ^ k : Nat)) := by
  rw [pk_and (jI z) k hm, jI_n]
  have h2 := jI_bv z
  congr 1
  rw [Int.natCast_emod, h2]
  apply Int.emod_emod_of_dvd
  have : (4294967296 : Int) = ((2 ^ 32 : Nat) : Int) := by decide
  rw [this]
  exact Int.ofNat_dvd.mpr (Nat.pow_dvd_pow 2 (by omega))
/-- literals -/
theorem jI_0 : (0 : Int32) = jI 0 := by decide
theorem jI_1 : (1 : Int32) = jI 1 := by decide
theorem jI_m1 : (-1 : Int32) = jI (-1) := by decide
