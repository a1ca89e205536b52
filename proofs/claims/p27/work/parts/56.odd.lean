/-! halving while even: the reference's reduces -/
def jf_tz : Nat → Nat → Nat
  | 0, _ => 0
  | f + 1, m => if m % 2 = 0 then jf_tz f (m / 2) + 1 else 0
section ODD
variable {S : Option (Nat × (Nat → Int32))} {Q : Option Value → jm_H → Prop}
theorem s235 {r : Nat} : ∀ (f m : Nat) (p : Int) (H : jm_H), jm_tg H r = 13 → 0 < m → m < 2 ^ f → f ≤ 30 → jm_I H r 48 = nI m → jm_I H r 49 = jI p → jm_w S 1 235 0 [.ref r] [] H Q = Q none (jm_pI (jm_pI H r 48 (nI (m / 2 ^ jf_tz f m))) r 49 (jI (p + jf_tz f m)))
  | 0, m, p, H, _, h0, h1, _, _, _ => by
    exfalso
    have : (2 : Nat) ^ 0 = 1 := rfl
    omega
  | f + 1, m, p, H, ht, h0, h1, hf, e48, e49 => by
    have hp : 2 ^ (f + 1) ≤ 2 ^ 30 := p2_le hf
    have hm : m < 2147483648 := by
      have : (2 : Nat) ^ 30 = 1073741824 := by decide
      omega
    have ed : nI m / (2 : Int32) = nI (m / 2) := by
      rw [jI_n, show (2 : Int32) = jI 2 from by decide, jI_d ⟨by omega, by omega⟩ (by omega) (by decide) (by decide), jI_n]
      congr 1
    have em : nI m - nI m / (2 : Int32) * (2 : Int32) = nI (m % 2) := by
      rw [ed, jI_n, jI_n, show (2 : Int32) = jI 2 from by decide, jI_mul, jI_sub, jI_n]
      congr 1
      omega
    rw [u235_0 ht, e48, em]
    have z : (nI (m % 2) = (0 : Int32)) = (m % 2 = 0) := propext (nI_eqI (b := 0) (by omega) (by decide))
    by_cases h : m % 2 = 0
    · rw [if_neg (by rw [z]; exact fun g => g h), u235_9 ht, e48, ed, jm_I_pI, if_neg (by omega), e49, jI_1, jI_add]
      have h2 : m / 2 < 2 ^ f := by
        rw [Nat.pow_succ] at h1
        omega
      rw [s235 f (m / 2) (p + 1) _ (tgI (tgI ht)) (by omega) h2 (by omega) (by rw [jm_I_pI, if_neg (by omega), jm_I_pI, if_pos ⟨rfl, rfl⟩]) (by rw [jm_I_pI, if_pos ⟨rfl, rfl⟩])]
      have ej : jf_tz (f + 1) m = jf_tz f (m / 2) + 1 := by rw [jf_tz, if_pos h]
      rw [ej, pI_comm _ (a := r) (k := 49) (b := r) (j := 48) _ _ (Or.inr (by decide)), pI_same, pI_same, Nat.div_div_eq_div_mul, Nat.pow_succ, Nat.mul_comm 2, show p + 1 + (jf_tz f (m / 2) : Int) = p + ((jf_tz f (m / 2) + 1 : Nat) : Int) by omega]
    · have ej : jf_tz (f + 1) m = 0 := by rw [jf_tz, if_neg h]
      rw [if_pos (by rw [z]; exact h), u235_32, ej, Nat.pow_zero, Nat.div_one, ← e48, pI_self]
      have : jI (p + ((0 : Nat) : Int)) = jm_I H r 49 := by rw [e49]; congr 1; omega
      rw [this, pI_self]
end ODD
