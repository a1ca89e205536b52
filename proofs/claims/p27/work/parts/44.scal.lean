/-! contracts of what works on numbers alone -/
theorem nI_p2 {k : Nat} (hk : k < 32) : (1 : Int32) <<< (nI k &&& 31) = nI (2 ^ k) := by rw [nI_1L, nI_shl 1 hk, Nat.one_mul]
theorem nI_mskz (z : Int) {k : Nat} (hk : k < 31) : jI z &&& (nI (2 ^ k) - 1) = jI (z % (2 ^ k : Nat)) := by
  have hp : 0 < 2 ^ k := Nat.two_pow_pos k
  have h2 : 2 ^ k < 2 ^ 31 := Nat.pow_lt_pow_right (by decide) hk
  have e : nI (2 ^ k) - 1 = nI (2 ^ k - 1) := by rw [nI_1L, pk_sub hp]
  rw [e]
  exact jI_and z (k := k) (m := nI (2 ^ k - 1)) (by rw [pk_tn (by omega)]) (by omega)
theorem nI_eqI {a b : Nat} (ha : a < 2147483648) (hb : b < 2147483648) : nI a = nI b ↔ a = b := by
  rw [jI_n, jI_n, jI_eq ⟨by omega, by omega⟩ ⟨by omega, by omega⟩]
  omega
theorem p2_le {n m : Nat} (h : n ≤ m) : 2 ^ n ≤ 2 ^ m := Nat.pow_le_pow_right (by decide) h
theorem p2_12 {N : Nat} (h : N ≤ 12) : 2 ^ N ≤ 4096 := p2_le h
theorem p2_pos (N : Nat) : 0 < 2 ^ N := Nat.two_pow_pos N
theorem p2_half {N : Nat} (h : 1 ≤ N) : 2 * 2 ^ (N - 1) = 2 ^ N := by
  obtain ⟨m, rfl⟩ : ∃ m, N = m + 1 := ⟨N - 1, by omega⟩
  rw [Nat.add_sub_cancel, Nat.pow_succ, Nat.mul_comm]
/-- the row of the negative value -/
def jf_neg (N A : Nat) : Nat := (2 ^ N - A) % 2 ^ N
/-- as a number with a sign -/
def jf_ord (N A : Nat) : Int := if A < 2 ^ (N - 1) then (A : Int) else (A : Int) - (2 ^ N : Nat)
/-- without its sign -/
def jf_bare (N A : Nat) : Nat := if A ≤ 2 ^ (N - 1) then A else jf_neg N A
/-- the sign of a row's value; 0 for nil -/
def jf_sgn (N A : Nat) : Int := if A = 0 ∨ A = 2 ^ (N - 1) then 0 else if 2 ^ (N - 1) < A then -1 else 1
section SCAL
variable {S : Option (Nat × (Nat → Int32))} {H : jm_H} {Q : Option Value → jm_H → Prop}
theorem c176 (v lo hi : Int32) : jm_c S 176 [.int v, .int lo, .int hi] H Q = Q (some (.int (if lo.toInt ≤ v.toInt ∧ v.toInt ≤ hi.toInt then 1 else 0))) H := by
  rw [en176, u176_0, u176_5, u176_10, u176_14, u176_15 (Or.inr rfl), u176_15 (Or.inl rfl)]
  simp only [Int32.lt_iff_toInt_lt]
  repeat' split
  all_goals first | rfl | (exfalso; omega)
theorem c217 (n w : Int32) : jm_c S 217 [.int n, .int w] H Q = Q (some (.int (if jr_sz n w then 1 else 0))) H := by
  rw [en217, u217_0, c176]
  simp only [Option.toList_some, List.append_nil]
  rw [u217_7, u217_10, c176]
  simp only [Option.toList_some, List.append_nil]
  rw [u217_16, u217_19, u217_23, u217_24 (Or.inr rfl), u217_24 (Or.inl rfl), i32_3, i32_12, i32_2, i32_0]
  have e1 : (1 : Int32) ≠ 0 := by decide
  by_cases h1 : 3 ≤ n.toInt ∧ n.toInt ≤ 12 <;> by_cases h2 : 0 ≤ w.toInt ∧ w.toInt ≤ 2
  · rw [if_pos h1, if_pos h2, if_neg e1, if_neg e1, if_pos ⟨h1.1, h1.2, h2⟩]
  · rw [if_pos h1, if_neg h2, if_neg e1, if_pos rfl, if_neg (fun h => h2 h.2.2)]
  · rw [if_neg h1, if_pos rfl, if_neg (fun h => h1 ⟨h.1, h.2.1⟩)]
  · rw [if_neg h1, if_pos rfl, if_neg (fun h => h1 ⟨h.1, h.2.1⟩)]
theorem nI_p2i {n : Int32} (h1 : 0 ≤ n.toInt) (h2 : n.toInt ≤ 12) : ((1 : Int32) <<< (n &&& 31)).toInt = 2 ^ n.toInt.toNat := by
  obtain ⟨N, rfl, hN⟩ : ∃ N : Nat, n = nI N ∧ N ≤ 12 := ⟨n.toInt.toNat, by rw [jI_n, Int.toNat_of_nonneg h1]; exact jI_of n, by omega⟩
  have := p2_12 hN
  rw [nI_p2 (by omega), nI_toInt (by omega), nI_toInt (by omega)]
  simp
theorem c99 (n w a : Int32) : jm_c S 99 [.int n, .int w, .int a] H Q = Q (some (.int (if jr_row n w a then 1 else 0))) H := by
  rw [en99, u99_0, c93]
  simp only [Option.toList_some, List.append_nil]
  rw [u99_5, u99_8, u99_12, u99_19, u99_23, u99_24 (Or.inr rfl), u99_24 (Or.inl rfl)]
  simp only [Int32.lt_iff_toInt_lt, Int32.le_iff_toInt_le, i32_0]
  have e1 : (1 : Int32) ≠ 0 := by decide
  by_cases h1 : jr_sz n w
  · rw [if_pos h1, if_neg e1, nI_p2i (by have := h1.1; omega) h1.2.1]
    by_cases h2 : a.toInt < 0
    · rw [if_pos h2, if_neg (fun h => by have := h.2.1; omega)]
    · by_cases h3 : (2 : Int) ^ n.toInt.toNat ≤ a.toInt
      · rw [if_neg h2, if_pos h3, if_neg (fun h => by have := h.2.2; omega)]
      · rw [if_neg h2, if_neg h3, if_pos ⟨h1, by omega, by omega⟩]
  · rw [if_neg h1, if_pos rfl, if_neg (fun h => h1 h.1)]
theorem c220 (n w a : Int32) : jm_c S 220 [.int n, .int w, .int a] H Q = Q (some (.int (if jr_row n w a then 1 else 0))) H := by
  rw [en220, u220_0, c217]
  simp only [Option.toList_some, List.append_nil]
  rw [u220_5, u220_8, c176]
  simp only [Option.toList_some, List.append_nil]
  rw [u220_18, u220_21, u220_25, u220_26 (Or.inr rfl), u220_26 (Or.inl rfl), i32_0]
  have e1 : (1 : Int32) ≠ 0 := by decide
  by_cases h1 : jr_sz n w
  · obtain ⟨N, W, g1, g2, g3, rfl, rfl⟩ := jr_sz_of h1
    have hp := p2_12 g2
    have hq := p2_pos N
    have e : ((1 : Int32) <<< (nI N &&& 31) - 1).toInt = ((2 ^ N - 1 : Nat) : Int) := by
      rw [nI_p2 (by omega), nI_1L, pk_sub hq, nI_toInt (by omega)]
    have e2 : (2 : Int) ^ (nI N).toInt.toNat = ((2 ^ N : Nat) : Int) := by
      rw [nI_toInt (by omega)]
      simp
    rw [if_pos h1, if_neg e1, e]
    by_cases h2 : 0 ≤ a.toInt ∧ a.toInt ≤ ((2 ^ N - 1 : Nat) : Int)
    · rw [if_pos h2, if_neg e1, if_pos ⟨h1, h2.1, by rw [e2]; omega⟩]
    · rw [if_neg h2, if_pos rfl, if_neg (fun h => h2 ⟨h.2.1, by have := h.2.2; rw [e2] at this; omega⟩)]
  · rw [if_neg h1, if_pos rfl, if_neg (fun h => h1 h.1)]
theorem c115 (n w a b : Int32) : jm_c S 115 [.int n, .int w, .int a, .int b] H Q = Q (some (.int (if jr_row n w a ∧ jr_row n w b then 1 else 0))) H := by
  rw [en115, u115_0, c99]
  simp only [Option.toList_some, List.append_nil]
  rw [u115_6, u115_9, c99]
  simp only [Option.toList_some, List.append_nil]
  rw [u115_15, u115_18, u115_22, u115_23 (Or.inr rfl), u115_23 (Or.inl rfl)]
  have e1 : (1 : Int32) ≠ 0 := by decide
  by_cases h1 : jr_row n w a <;> by_cases h2 : jr_row n w b
  · rw [if_pos h1, if_pos h2, if_neg e1, if_neg e1, if_pos ⟨h1, h2⟩]
  · rw [if_pos h1, if_neg h2, if_neg e1, if_pos rfl, if_neg (fun h => h2 h.2)]
  · rw [if_neg h1, if_pos rfl, if_neg (fun h => h1 h.1)]
  · rw [if_neg h1, if_pos rfl, if_neg (fun h => h1 h.1)]
theorem jf_neg_i {N A : Nat} (hA : A ≤ 2 ^ N) : ((jf_neg N A : Nat) : Int) = ((2 ^ N : Nat) - (A : Int)) % (2 ^ N : Nat) := by
  unfold jf_neg
  rw [Int.natCast_emod, Int.natCast_sub hA]
theorem c64 {N A : Nat} (hN : N ≤ 12) (hA : A ≤ 2 ^ N) : jm_c S 64 [.int (nI N), .int (nI A)] H Q = Q (some (.int (nI (jf_neg N A)))) H := by
  rw [en64, u64_0, nI_p2 (by omega), jI_n A, jI_neg, nI_mskz _ (by omega), jI_n (jf_neg N A), jf_neg_i hA]
  have : ((2 ^ N : Nat) - (A : Int)) % (2 ^ N : Nat) = (-(A : Int)) % (2 ^ N : Nat) := by
    rw [Int.sub_eq_add_neg, Int.add_comm, Int.add_emod_right]
  rw [this]
theorem c194 {N A : Nat} (hN : N ≤ 12) (hA : A ≤ 2 ^ N) : jm_c S 194 [.int (nI N), .int (nI A)] H Q = Q (some (.int (nI (jf_neg N A)))) H := by
  rw [en194, u194_0, nI_p2 (by omega), jI_n (2 ^ N), jI_n A, jI_sub, ← jI_n (2 ^ N), nI_mskz _ (by omega), jI_n (jf_neg N A), jf_neg_i hA]
theorem c191 {N : Nat} (h1 : 1 ≤ N) (h2 : N ≤ 31) : jm_c S 191 [.int (nI N)] H Q = Q (some (.int (nI (2 ^ (N - 1))))) H := by
  rw [en191, u191_0, nI_1L, pk_sub h1, nI_shl _ (by omega), Nat.one_mul]
theorem c204 {N A : Nat} (h1 : 1 ≤ N) (h2 : N ≤ 31) (hA : A < 2147483648) : jm_c S 204 [.int (nI N), .int (nI A)] H Q = Q (some (.int (if A = 2 ^ (N - 1) then 1 else 0))) H := by
  have hp : 2 ^ (N - 1) < 2147483648 := Nat.lt_of_le_of_lt (Nat.pow_le_pow_right (by decide) (show N - 1 ≤ 30 by omega)) (by decide)
  rw [en204, u204_0, c191 h1 h2]
  simp only [Option.toList_some, List.cons_append, List.nil_append]
  rw [u204_5, u204_8, u204_12, u204_13 (Or.inr rfl), u204_13 (Or.inl rfl)]
  simp only [nI_eq hA hp]
  by_cases h : A = 2 ^ (N - 1)
  · simp only [h, if_true, not_true_eq_false, if_false]
  · simp only [h, if_false, not_false_eq_true, if_true]
theorem c142 {N : Nat} (h1 : 2 ≤ N) (h2 : N ≤ 31) : jm_c S 142 [.int (nI N)] H Q = Q (some (.int (nI (2 ^ (N - 2))))) H := by
  have e : (2 : Int32) = nI 2 := rfl
  rw [en142, u142_0, e, pk_sub h1, nI_p2 (by omega)]
theorem c108 {N A : Nat} (h1 : 1 ≤ N) (h2 : N ≤ 12) (hA : A < 2 ^ N) : jm_c S 108 [.int (nI N), .int (nI A)] H Q = Q (some (.int (jI (jf_ord N A)))) H := by
  have hp := p2_12 h2
  have hh := p2_half h1
  rw [en108, u108_0, c50 h1 (by omega)]
  simp only [Option.toList_some, List.cons_append, List.nil_append]
  rw [u108_5, u108_8, u108_16, u108_17, u108_17, nI_p2 (by omega)]
  simp only [nI_ltI (show A < 2147483648 by omega) (show 2 ^ (N - 1) < 2147483648 by omega)]
  unfold jf_ord
  by_cases h : A < 2 ^ (N - 1)
  · rw [if_pos h, if_pos h, jI_n]
  · rw [if_neg h, if_neg h, jI_n, jI_n, jI_sub]
theorem c231 {N A : Nat} (h1 : 1 ≤ N) (h2 : N ≤ 12) (hA : A < 2 ^ N) : jm_c S 231 [.int (nI N), .int (nI A)] H Q = Q (some (.int (jI (jf_ord N A)))) H := by
  have hp := p2_12 h2
  have hh := p2_half h1
  rw [en231, u231_0, c191 h1 (by omega)]
  simp only [Option.toList_some, List.cons_append, List.nil_append]
  rw [u231_5, u231_8, u231_16, u231_17, u231_17, nI_p2 (by omega)]
  simp only [nI_ltI (show A < 2147483648 by omega) (show 2 ^ (N - 1) < 2147483648 by omega)]
  unfold jf_ord
  by_cases h : A < 2 ^ (N - 1)
  · rw [if_pos h, if_pos h, jI_n]
  · rw [if_neg h, if_neg h, jI_n, jI_n, jI_sub]
theorem c71 {N A : Nat} (h1 : 1 ≤ N) (h2 : N ≤ 12) (hA : A < 2 ^ N) : jm_c S 71 [.int (nI N), .int (nI A)] H Q = Q (some (.int (nI (jf_bare N A)))) H := by
  have hp := p2_12 h2
  have hh := p2_half h1
  rw [en71, u71_0, c50 h1 (by omega)]
  simp only [Option.toList_some, List.cons_append, List.nil_append]
  rw [u71_5, u71_8, c64 h2 (by omega)]
  simp only [Option.toList_some, List.append_nil]
  rw [u71_13, u71_16, u71_17, u71_17]
  simp only [nI_leI (show A < 2147483648 by omega) (show 2 ^ (N - 1) < 2147483648 by omega)]
  unfold jf_bare
  by_cases h : A ≤ 2 ^ (N - 1)
  · rw [if_pos h, if_pos h]
  · rw [if_neg h, if_neg h]
theorem c206 {N A : Nat} (h1 : 1 ≤ N) (h2 : N ≤ 12) (hA : A < 2 ^ N) : jm_c S 206 [.int (nI N), .int (nI A)] H Q = Q (some (.int (jI (jf_sgn N A)))) H := by
  have hp := p2_12 h2
  have hh := p2_half h1
  have e0 : (0 : Int32) = nI 0 := rfl
  rw [en206, u206_0, u206_4, c204 h1 (by omega) (by omega)]
  simp only [Option.toList_some, List.append_nil]
  rw [u206_9, u206_12, u206_16, c191 h1 (by omega)]
  simp only [Option.toList_some, List.cons_append, List.nil_append]
  rw [u206_21, u206_24, u206_28, u206_29, u206_29, u206_29]
  have z : (nI A = (0 : Int32)) = (A = 0) := by rw [e0]; exact propext (nI_eqI (by omega) (by decide))
  simp only [nI_leI (show A < 2147483648 by omega) (show 2 ^ (N - 1) < 2147483648 by omega), z]
  unfold jf_sgn
  have e1 : (1 : Int32) ≠ 0 := by decide
  by_cases g0 : A = 0
  · rw [if_pos g0, if_pos (Or.inl g0)]; rfl
  · by_cases g1 : A = 2 ^ (N - 1)
    · rw [if_neg g0, if_pos g1, if_neg e1, if_pos (Or.inr g1)]; rfl
    · rw [if_neg g0, if_neg g1, if_pos rfl, if_neg (show ¬ (A = 0 ∨ A = 2 ^ (N - 1)) by omega)]
      by_cases g2 : 2 ^ (N - 1) < A
      · rw [if_neg (by omega), if_pos g2]; rfl
      · rw [if_pos (by omega), if_neg g2]; rfl
theorem c116 {a b : Int} (ha : j3 a) (hb : j3 b) : jm_c S 116 [.int (jI a), .int (jI b)] H Q = Q (some (.int (jI (if a < b then -1 else if a = b then 0 else 1)))) H := by
  rw [en116, u116_0, u116_5, u116_9, u116_14, u116_18, u116_19, u116_19, u116_19]
  simp only [jI_le hb ha, jI_eq ha hb]
  by_cases h1 : a < b
  · rw [if_neg (by omega), if_pos h1]; rfl
  · rw [if_pos (by omega), if_neg h1]
    by_cases h2 : a = b
    · rw [if_neg (by omega), if_pos h2]; rfl
    · rw [if_pos h2, if_neg h2]; rfl
theorem c57 {a b : Int} (ha : j3 a) (hb : j3 b) : jm_c S 57 [.int (jI a), .int (jI b)] H Q = Q (some (.int (jI (min a b)))) H := by
  rw [en57, u57_0, u57_5, u57_9, u57_10, u57_10]
  simp only [jI_lt hb ha]
  by_cases h1 : b < a
  · rw [if_pos h1, show min a b = b by omega]
  · rw [if_neg h1, show min a b = a by omega]
theorem c74 {a b : Int} (ha : j3 a) (hb : j3 b) : jm_c S 74 [.int (jI a), .int (jI b)] H Q = Q (some (.int (jI (max a b)))) H := by
  rw [en74, u74_0, u74_5, u74_9, u74_10, u74_10]
  simp only [jI_lt ha hb]
  by_cases h1 : a < b
  · rw [if_pos h1, show max a b = b by omega]
  · rw [if_neg h1, show max a b = a by omega]
end SCAL
