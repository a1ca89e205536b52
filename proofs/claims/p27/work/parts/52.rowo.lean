/-! a row that is neither 0 nor nil taken apart, by the reference -/
def jf_mant (N W A : Nat) : Nat := 2 ^ jf_fb N W A + jf_frac N W A
def jf_pow (N W A : Nat) : Int := jf_reg N A * (2 ^ W : Nat) + jf_exp N W A - jf_fb N W A
def jf_open (r N W A : Nat) (H : jm_H) : jm_H := jm_pI (jm_pI (jm_pI (jm_pI (jm_pI (jm_pI (jm_pI H r 43 (nI (jf_run N A))) r 44 (jI (jf_reg N A))) r 46 (nI (jf_fb N W A))) r 45 (nI (jf_exp N W A))) r 47 (nI (jf_frac N W A))) r 48 (nI (jf_mant N W A))) r 49 (jI (jf_pow N W A))
theorem p2_13 {N : Nat} (h : N ≤ 13) : 2 ^ N ≤ 8192 := p2_le h
theorem jf_neg_lt (N A : Nat) : jf_neg N A < 2 ^ N := Nat.mod_lt _ (p2_pos N)
theorem jf_bare_lt {N A : Nat} (hA : A < 2 ^ N) : jf_bare N A < 2 ^ N := by
  unfold jf_bare
  split
  · exact hA
  · exact jf_neg_lt N A
section ROWO
variable {S : Option (Nat × (Nat → Int32))} {H : jm_H} {Q : Option Value → jm_H → Prop}
theorem c194' {N A : Nat} (hN : N ≤ 13) (hA : A ≤ 2 ^ N) : jm_c S 194 [.int (nI N), .int (nI A)] H Q = Q (some (.int (nI (jf_neg N A)))) H := by
  rw [en194, u194_0, nI_p2 (by omega), jI_n (2 ^ N), jI_n A, jI_sub, ← jI_n (2 ^ N), nI_mskz _ (by omega), jI_n (jf_neg N A), jf_neg_i hA]
theorem c193 {r N W A : Nat} (ht : jm_tg H r = 13) (h1 : 3 ≤ N) (h2 : N ≤ 13) (hw : W ≤ 2) (hA : A < 2 ^ N) : jm_c S 193 [.ref r, .int (nI N), .int (nI W), .int (nI A)] H Q = Q none (jf_open r N W (jf_bare N A) H) := by
  have hp := p2_13 h2
  have hh := p2_half (show 1 ≤ N by omega)
  have hB := jf_bare_lt hA
  have e : nI N - (2 : Int32) = nI (N - 2) := by rw [nI_2L, pk_sub (by omega)]
  have h17 : jm_w S 2 193 17 [.ref r, .int (nI N), .int (nI W), .int (nI A), .null, .null, .null, .null, .null] [.int (nI (jf_bare N A))] H Q = Q none (jf_open r N W (jf_bare N A) H) := by
    generalize jf_bare N A = B at hB ⊢
    have hl := jf_left_le N B
    have hr := jf_run_le N B
    have t2 := jf_top2 N B
    have ha := jf_at_le B (jf_top N B) (N - 1)
    rw [u193_17, e, c195 (by omega) (by omega)]
    simp only [Option.toList_some, List.append_nil]
    have ei : nI (N - 2) = jI (((N - 1 : Nat) : Int) - 1) := by rw [jI_n]; congr 1; omega
    rw [u193_27, e, ei]
    show jm_w S 2 193 34 [.ref r, .int (nI N), .int (nI W), .int (nI A), .int (nI B), .int (nI (jf_top N B)), .int (jI (((N - 1 : Nat) : Int) - 1)), .null, .null] [] H Q = _
    rw [s193 (by omega) (by omega) (N - 1) (by omega)]
    have er : (nI N - (2 : Int32)) - jI ((jf_at B (jf_top N B) (N - 1) : Int) - 1) = nI (jf_run N B) := by
      rw [jI_n N, show (2 : Int32) = jI 2 from by decide, jI_sub, jI_sub, jI_n]
      congr 1
      unfold jf_run
      omega
    have z : (nI (jf_top N B) = (0 : Int32)) = (jf_top N B = 0) := propext (nI_eqI (b := 0) (by omega) (by decide))
    have h87 : jm_w S 2 193 87 [.ref r, .int (nI N), .int (nI W), .int (nI A), .int (nI B), .int (nI (jf_top N B)), .int (jI ((jf_at B (jf_top N B) (N - 1) : Int) - 1)), .null, .null] [.int (jI (jf_reg N B)), .ref r] (jm_pI H r 43 (nI (jf_run N B))) Q = Q none (jf_open r N W B H) := by
      have h101 : jm_w S 2 193 101 [.ref r, .int (nI N), .int (nI W), .int (nI A), .int (nI B), .int (nI (jf_top N B)), .int (jI ((jf_at B (jf_top N B) (N - 1) : Int) - 1)), .null, .null] [.int (nI (jf_left N B))] (jm_pI (jm_pI H r 43 (nI (jf_run N B))) r 44 (jI (jf_reg N B))) Q = Q none (jf_open r N W B H) := by
        have em : (1 : Int32) <<< (nI (jf_left N B) &&& 31) = nI (2 ^ jf_left N B) := nI_p2 (by omega)
        have hf : jf_fb N W B ≤ 11 := by unfold jf_fb; omega
        have hm : B % 2 ^ jf_left N B < 8192 := Nat.lt_of_le_of_lt (Nat.mod_le _ _) (by omega)
        rw [u193_101, em, nI_msk _ (by omega)]
        have h129 : jm_w S 2 193 129 [.ref r, .int (nI N), .int (nI W), .int (nI A), .int (nI B), .int (nI (jf_top N B)), .int (jI ((jf_at B (jf_top N B) (N - 1) : Int) - 1)), .int (nI (jf_left N B)), .int (nI (B % 2 ^ jf_left N B))] [.int (nI (jf_fb N W B)), .ref r] (jm_pI (jm_pI H r 43 (nI (jf_run N B))) r 44 (jI (jf_reg N B))) Q = Q none (jf_open r N W B H) := by
          have h156 : jm_w S 2 193 156 [.ref r, .int (nI N), .int (nI W), .int (nI A), .int (nI B), .int (nI (jf_top N B)), .int (jI ((jf_at B (jf_top N B) (N - 1) : Int) - 1)), .int (nI (jf_left N B)), .int (nI (B % 2 ^ jf_left N B))] [.int (nI (jf_exp N W B)), .ref r] (jm_pI (jm_pI (jm_pI H r 43 (nI (jf_run N B))) r 44 (jI (jf_reg N B))) r 46 (nI (jf_fb N W B))) Q = Q none (jf_open r N W B H) := by
            have efr : B % 2 ^ jf_left N B % 2 ^ jf_fb N W B = jf_frac N W B := by
              unfold jf_frac
              exact Nat.mod_mod_of_dvd _ (Nat.pow_dvd_pow 2 (by unfold jf_fb; omega))
            rw [u193_156 (tgI (tgI (tgI ht))) (tgI (tgI (tgI ht)))]
            simp only [jm_I_pI, true_and, Nat.reduceEqDiff, if_true, if_false]
            rw [nI_p2 (by omega), nI_p2 (by omega), nI_msk _ (by omega), efr]
            have e48 : nI (2 ^ jf_fb N W B) + nI (jf_frac N W B) = nI (jf_mant N W B) := by rw [jI_n, jI_n, jI_add, jI_n]; unfold jf_mant; rw [Int.natCast_add]
            have e49 : jI (jf_reg N B) * nI (2 ^ W) + nI (jf_exp N W B) - nI (jf_fb N W B) = jI (jf_pow N W B) := by rw [jI_n, jI_n, jI_n, jI_mul, jI_add, jI_sub]; rfl
            rw [e48, e49]
            rfl
          rw [u193_129 (tgI (tgI ht))]
          by_cases hlt : jf_left N B < W
          · rw [if_pos (by rw [nI_ltI (by omega) (by omega)]; exact hlt), u193_149, pk_sub (by omega), nI_shl _ (by omega)]
            have : jf_exp N W B = B % 2 ^ jf_left N B * 2 ^ (W - jf_left N B) := by unfold jf_exp; rw [if_pos hlt]
            rw [← this]
            exact h156
          · rw [if_neg (by rw [nI_ltI (by omega) (by omega)]; exact hlt), u193_139, pk_sub (by omega), nI_shr (by omega) (by omega)]
            have : jf_exp N W B = B % 2 ^ jf_left N B / 2 ^ (jf_left N B - W) := by unfold jf_exp; rw [if_neg hlt]
            rw [← this]
            exact h156
        by_cases hle : jf_left N B ≤ W
        · rw [if_pos (by rw [nI_leI (by omega) (by omega)]; exact hle), u193_128]
          have : jf_fb N W B = 0 := by unfold jf_fb; omega
          rw [this] at h129
          exact h129
        · rw [if_neg (by rw [nI_leI (by omega) (by omega)]; exact hle), u193_121, pk_sub (by omega)]
          exact h129
      rw [u193_87 (tgI ht)]
      by_cases h0 : 1 ≤ jf_at B (jf_top N B) (N - 1)
      · rw [if_pos (by rw [jI_0, jI_le (by decide) ⟨by omega, by omega⟩]; omega), u193_99]
        have : jI ((jf_at B (jf_top N B) (N - 1) : Int) - 1) = nI (jf_left N B) := by rw [jI_n]; congr 1; unfold jf_left; omega
        rw [← this] at h101
        exact h101
      · rw [if_neg (by rw [jI_0, jI_le (by decide) ⟨by omega, by omega⟩]; omega), u193_95]
        have : jf_left N B = 0 := by unfold jf_left; omega
        rw [this] at h101
        exact h101
    rw [u193_57 ht, er]
    by_cases h0 : jf_top N B = 0
    · rw [if_pos (by rw [z]; exact h0), u193_82 (tgI ht), jm_I_pI, if_pos ⟨rfl, rfl⟩]
      have : -nI (jf_run N B) = jI (jf_reg N B) := by unfold jf_reg; rw [if_pos h0, jI_n, jI_neg]
      rw [this]
      exact h87
    · rw [if_neg (by rw [z]; exact h0), u193_73 (tgI ht), jm_I_pI, if_pos ⟨rfl, rfl⟩]
      have : nI (jf_run N B) - 1 = jI (jf_reg N B) := by unfold jf_reg; rw [if_neg h0, jI_n, jI_1, jI_sub]
      rw [this]
      exact h87
  rw [en193, u193_0, c191 (by omega) (by omega)]
  simp only [Option.toList_some, List.cons_append, List.nil_append]
  rw [u193_5]
  simp only [nI_leI (show A < 2147483648 by omega) (show 2 ^ (N - 1) < 2147483648 by omega)]
  by_cases h : A ≤ 2 ^ (N - 1)
  · rw [if_pos h, u193_16]
    have : jf_bare N A = A := by unfold jf_bare; rw [if_pos h]
    rw [this] at h17 ⊢
    exact h17
  · rw [if_neg h, u193_8, c194' h2 (by omega)]
    simp only [Option.toList_some, List.append_nil]
    rw [u193_13]
    have : jf_bare N A = jf_neg N A := by unfold jf_bare; rw [if_neg h]
    rw [this] at h17 ⊢
    exact h17
end ROWO
