/-! numbers that are not below 0, by nI -/
theorem nI_shl (a : Nat) {k : Nat} (hk : k < 32) : nI a <<< (nI k &&& 31) = nI (a * 2 ^ k) := by rw [jI_n, jI_n, jI_n, jI_shl _ hk, Int.natCast_mul]
theorem nI_shr {a k : Nat} (ha : a < 2147483648) (hk : k < 32) : nI a >>> (nI k &&& 31) = nI (a / 2 ^ k) := by rw [jI_n, jI_n, jI_n, jI_shr ⟨by omega, by omega⟩ hk, Int.natCast_ediv]
theorem nI_1L : (1 : Int32) = nI 1 := rfl
theorem nI_2L : (2 : Int32) = nI 2 := rfl
theorem nI_and1 (a : Nat) : nI a &&& 1 = nI (a % 2) := by
  rw [jI_n, jI_n, jI_and (k := 1) _ (by decide) (by decide)]
  rfl
theorem nI_msk (a : Nat) {k : Nat} (hk : k < 31) : nI a &&& (nI (2 ^ k) - 1) = nI (a % 2 ^ k) := by
  have hp : 0 < 2 ^ k := Nat.two_pow_pos k
  have h2 : 2 ^ k < 2 ^ 31 := Nat.pow_lt_pow_right (by decide) hk
  have e : nI (2 ^ k) - 1 = nI (2 ^ k - 1) := by rw [nI_1L, pk_sub hp]
  rw [e]
  have := jI_and (a : Int) (k := k) (m := nI (2 ^ k - 1)) (by rw [pk_tn (by omega)]) (by omega)
  rw [jI_n a, this, jI_n, Int.natCast_emod]
theorem i32_3 : (3 : Int32).toInt = 3 := by decide
theorem i32_12 : (12 : Int32).toInt = 12 := by decide
theorem i32_2 : (2 : Int32).toInt = 2 := by decide
theorem i32_0 : (0 : Int32).toInt = 0 := by decide
/-- a size and a width -/
abbrev jr_sz (n w : Int32) : Prop := 3 ≤ n.toInt ∧ n.toInt ≤ 12 ∧ 0 ≤ w.toInt ∧ w.toInt ≤ 2
abbrev jr_row (n w a : Int32) : Prop := jr_sz n w ∧ 0 ≤ a.toInt ∧ a.toInt < 2 ^ n.toInt.toNat
theorem jr_sz_of {n w : Int32} (h : jr_sz n w) : ∃ N W : Nat, 3 ≤ N ∧ N ≤ 12 ∧ W ≤ 2 ∧ n = nI N ∧ w = nI W := by
  refine ⟨n.toInt.toNat, w.toInt.toNat, by omega, by omega, by omega, ?_, ?_⟩
  · rw [jI_n, Int.toNat_of_nonneg (by omega)]; exact jI_of n
  · rw [jI_n, Int.toNat_of_nonneg (by omega)]; exact jI_of w
theorem jr_row_of {n w a : Int32} (h : jr_row n w a) : ∃ N W A : Nat, 3 ≤ N ∧ N ≤ 12 ∧ W ≤ 2 ∧ A < 2 ^ N ∧ n = nI N ∧ w = nI W ∧ a = nI A := by
  obtain ⟨N, W, h1, h2, h3, h4, h5⟩ := jr_sz_of h.1
  refine ⟨N, W, a.toInt.toNat, h1, h2, h3, ?_, h4, h5, ?_⟩
  · have := h.2.2
    rw [h4, nI_toInt (by omega)] at this
    have e : ((N : Int).toNat) = N := by simp
    rw [e] at this
    have h0 := h.2.1
    have h6 : ((2 : Int) ^ N) = ((2 ^ N : Nat) : Int) := by norm_cast
    rw [h6] at this
    omega
  · rw [jI_n, Int.toNat_of_nonneg h.2.1]; exact jI_of a
section JRW
variable {S : Option (Nat × (Nat → Int32))} {H : jm_H} {Q : Option Value → jm_H → Prop}
theorem c93 (n w : Int32) : jm_c S 93 [.int n, .int w] H Q = Q (some (.int (if jr_sz n w then 1 else 0))) H := by
  rw [en93, u93_0, u93_5, u93_11, u93_15, u93_20, u93_24, u93_25 (Or.inr rfl), u93_25 (Or.inl rfl)]
  simp only [Int32.lt_iff_toInt_lt, i32_3, i32_12, i32_2, i32_0]
  repeat' split
  all_goals first | rfl | (exfalso; omega)
theorem c50 {N : Nat} (h1 : 1 ≤ N) (h2 : N ≤ 31) : jm_c S 50 [.int (nI N)] H Q = Q (some (.int (nI (2 ^ (N - 1))))) H := by
  rw [en50, u50_0, nI_1L, pk_sub h1, nI_shl _ (by omega), Nat.one_mul]
theorem c60 {N : Nat} (h1 : 1 ≤ N) (h2 : N ≤ 31) : jm_c S 60 [.int (nI N)] H Q = Q (some (.int (nI (2 ^ (N - 1) - 1)))) H := by
  rw [en60, u60_0, c50 h1 h2]
  simp only [Option.toList_some, List.append_nil]
  rw [u60_4, nI_1L, pk_sub (Nat.two_pow_pos _)]
theorem c69 {N A : Nat} (h1 : 1 ≤ N) (h2 : N ≤ 31) (hA : A < 2147483648) : jm_c S 69 [.int (nI N), .int (nI A)] H Q = Q (some (.int (if A = 2 ^ (N - 1) then 1 else 0))) H := by
  have hp : 2 ^ (N - 1) < 2147483648 := Nat.lt_of_le_of_lt (Nat.pow_le_pow_right (by decide) (show N - 1 ≤ 30 by omega)) (by decide)
  rw [en69, u69_0, c50 h1 h2]
  simp only [Option.toList_some, List.cons_append, List.nil_append]
  rw [u69_5, u69_8, u69_12, u69_13 (Or.inr rfl), u69_13 (Or.inl rfl)]
  simp only [nI_eq hA hp]
  by_cases h : A = 2 ^ (N - 1)
  · simp only [h, if_true, not_true_eq_false, if_false]
  · simp only [h, if_false, not_false_eq_true, if_true]
end JRW
