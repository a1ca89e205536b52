/-! a row above 0 taken apart, by the class -/
def jf_left (N A : Nat) : Nat := jf_at A (jf_top N A) (N - 1) - 1
def jf_reg (N A : Nat) : Int := if jf_top N A = 0 then -(jf_run N A : Int) else (jf_run N A : Int) - 1
def jf_fb (N W A : Nat) : Nat := jf_left N A - W
def jf_exp (N W A : Nat) : Nat := if jf_left N A < W then (A % 2 ^ jf_left N A) * 2 ^ (W - jf_left N A) else A % 2 ^ jf_left N A / 2 ^ (jf_left N A - W)
def jf_frac (N W A : Nat) : Nat := A % 2 ^ jf_fb N W A
theorem jf_left_le (N A : Nat) : jf_left N A ≤ N - 2 := by
  have := jf_at_le A (jf_top N A) (N - 1)
  unfold jf_left
  omega
theorem jf_run_le (N A : Nat) : jf_run N A ≤ N - 1 := by
  unfold jf_run
  omega
theorem jf_left_run {N A : Nat} (h : 2 ≤ N) : max 0 ((N : Int) - 2 - jf_run N A) = jf_left N A := by
  have := jf_at_le A (jf_top N A) (N - 1)
  unfold jf_left jf_run
  omega
theorem tgI {H : jm_H} {a k : Nat} {v : Int32} {r t : Nat} (h : jm_tg H r = t) : jm_tg (jm_pI H a k v) r = t := h
section ROWT
variable {S : Option (Nat × (Nat → Int32))} {H : jm_H} {Q : Option Value → jm_H → Prop}
theorem c72 {r N W A : Nat} (ht : jm_tg H r = 5) (h1 : 3 ≤ N) (h2 : N ≤ 12) (hw : W ≤ 2) (hA : A < 4096) : jm_c S 72 [.ref r, .int (nI N), .int (nI W), .int (nI A)] H Q = Q none (jm_pI (jm_pI (jm_pI (jm_pI (jm_pI H r 0 (nI (jf_run N A))) r 1 (jI (jf_reg N A))) r 2 (nI (jf_exp N W A))) r 3 (nI (jf_fb N W A))) r 4 (nI (jf_frac N W A))) := by
  have hl := jf_left_le N A
  have hr := jf_run_le N A
  have t2 := jf_top2 N A
  have e : nI N - (2 : Int32) = nI (N - 2) := by rw [nI_2L, pk_sub (by omega)]
  have et : (nI A >>> ((nI N - (2 : Int32)) &&& 31)) &&& (1 : Int32) = nI (jf_top N A) := by rw [e, nI_bit (by omega) (by omega)]; rfl
  have h16 : jm_w S 2 72 16 [.ref r, .int (nI N), .int (nI W), .int (nI A), .null, .null, .null] [.int (nI (jf_top N A))] H Q = Q none (jm_pI (jm_pI (jm_pI (jm_pI (jm_pI H r 0 (nI (jf_run N A))) r 1 (jI (jf_reg N A))) r 2 (nI (jf_exp N W A))) r 3 (nI (jf_fb N W A))) r 4 (nI (jf_frac N W A))) := by
    rw [u72_16, c73 (by omega) (by omega) (by omega)]
    simp only [Option.toList_some, List.cons_append, List.nil_append]
    have h47 : jm_w S 2 72 47 [.ref r, .int (nI N), .int (nI W), .int (nI A), .int (nI (jf_top N A)), .null, .null] [.int (jI (jf_reg N A)), .ref r] (jm_pI H r 0 (nI (jf_run N A))) Q = Q none (jm_pI (jm_pI (jm_pI (jm_pI (jm_pI H r 0 (nI (jf_run N A))) r 1 (jI (jf_reg N A))) r 2 (nI (jf_exp N W A))) r 3 (nI (jf_fb N W A))) r 4 (nI (jf_frac N W A))) := by
      have el : (nI N - (2 : Int32)) - nI (jf_run N A) = jI ((N : Int) - 2 - jf_run N A) := by
        rw [jI_n N, show (2 : Int32) = jI 2 from by decide, jI_sub, jI_n, jI_sub]
      have em : (1 : Int32) <<< (nI (jf_left N A) &&& 31) = nI (2 ^ jf_left N A) := nI_p2 (by omega)
      rw [u72_47 (tgI ht) (tgI ht), jm_I_pI, if_neg (by omega), jm_I_pI, if_pos ⟨rfl, rfl⟩, el, jI_0, c74 ⟨by omega, by omega⟩ ⟨by omega, by omega⟩, jf_left_run (by omega), ← jI_n]
      simp only [Option.toList_some, List.cons_append, List.nil_append]
      rw [u72_62, em, nI_msk _ (by omega)]
      have h98 : jm_w S 2 72 98 [.ref r, .int (nI N), .int (nI W), .int (nI A), .int (nI (jf_top N A)), .int (nI (jf_left N A)), .int (nI (A % 2 ^ jf_left N A))] [.int (nI (jf_exp N W A)), .ref r] (jm_pI (jm_pI H r 0 (nI (jf_run N A))) r 1 (jI (jf_reg N A))) Q = Q none (jm_pI (jm_pI (jm_pI (jm_pI (jm_pI H r 0 (nI (jf_run N A))) r 1 (jI (jf_reg N A))) r 2 (nI (jf_exp N W A))) r 3 (nI (jf_fb N W A))) r 4 (nI (jf_frac N W A))) := by
        have ef : max 0 ((jf_left N A : Int) - W) = (jf_fb N W A : Nat) := by unfold jf_fb; omega
        have hf : jf_fb N W A ≤ 10 := by unfold jf_fb; omega
        rw [u72_98 (tgI (tgI ht)), jI_n (jf_left N A), jI_n W, jI_sub, jI_0, c74 ⟨by omega, by omega⟩ ⟨by omega, by omega⟩, ef, ← jI_n, ← jI_n, ← jI_n]
        simp only [Option.toList_some, List.cons_append, List.nil_append]
        rw [u72_110 (tgI (tgI (tgI ht))) (tgI (tgI (tgI ht))), jm_I_pI, if_pos ⟨rfl, rfl⟩, nI_p2 (by omega), nI_msk _ (by omega)]
        rfl
      have hm : A % 2 ^ jf_left N A < 4096 := Nat.lt_of_le_of_lt (Nat.mod_le _ _) hA
      by_cases hlt : jf_left N A < W
      · rw [if_pos (by rw [nI_ltI (by omega) (by omega)]; exact hlt), u72_91, pk_sub (by omega), nI_shl _ (by omega)]
        have : jf_exp N W A = A % 2 ^ jf_left N A * 2 ^ (W - jf_left N A) := by unfold jf_exp; rw [if_pos hlt]
        rw [← this]
        exact h98
      · rw [if_neg (by rw [nI_ltI (by omega) (by omega)]; exact hlt), u72_81, pk_sub (by omega), nI_shr (by omega) (by omega)]
        have : jf_exp N W A = A % 2 ^ jf_left N A / 2 ^ (jf_left N A - W) := by unfold jf_exp; rw [if_neg hlt]
        rw [← this]
        exact h98
    have z : (nI (jf_top N A) = (0 : Int32)) = (jf_top N A = 0) := propext (nI_eqI (b := 0) (by omega) (by decide))
    rw [u72_24 ht]
    by_cases h0 : jf_top N A = 0
    · rw [if_pos (by rw [z]; exact h0), u72_42 (tgI ht), jm_I_pI, if_pos ⟨rfl, rfl⟩]
      have : -nI (jf_run N A) = jI (jf_reg N A) := by unfold jf_reg; rw [if_pos h0, jI_n, jI_neg]
      rw [this]
      exact h47
    · rw [if_neg (by rw [z]; exact h0), u72_33 (tgI ht), jm_I_pI, if_pos ⟨rfl, rfl⟩]
      have : nI (jf_run N A) - 1 = jI (jf_reg N A) := by unfold jf_reg; rw [if_neg h0, jI_n, jI_1, jI_sub]
      rw [this]
      exact h47
  rw [en72, u72_0, et, u72_11, u72_15]
  by_cases h1 : jf_top N A = 1
  · rw [if_neg (by rw [h1]; decide), show (1 : Int32) = nI (jf_top N A) by rw [h1]; rfl]
    exact h16
  · have h0 : jf_top N A = 0 := by omega
    rw [if_pos (by rw [h0]; decide), show (0 : Int32) = nI (jf_top N A) by rw [h0]; rfl]
    exact h16
end ROWT
