set_option maxRecDepth 20000
/-! the reference: numbers as rows of sixteen digits -/
def jq_d (D k : Nat) : Nat := D / 65536 ^ k % 65536
def jq_dg (H : jm_H) (r D : Nat) : Prop := D < 65536 ^ 16 ∧ ∀ k, k < 16 → jm_I H r k = nI (jq_d D k)
theorem jq_d_lt (D k : Nat) : jq_d D k < 65536 := Nat.mod_lt _ (by decide)
theorem jq_pw (k : Nat) : 65536 ^ k = 2 ^ (16 * k) := by rw [Nat.pow_mul]
theorem jq_pp (k : Nat) : 0 < 65536 ^ k := Nat.pow_pos (by decide)
theorem jq_dv (D k : Nat) : D / 65536 ^ (k + 1) = D / 65536 ^ k / 65536 := by rw [Nat.pow_succ, Nat.div_div_eq_div_mul]
theorem jq_dg_fr {P : Nat → Prop} {H H1 : jm_H} {r D : Nat} (f : jf_fr P H H1) (hr : ¬ P r) (h : jq_dg H r D) : jq_dg H1 r D := ⟨h.1, fun k hk => by rw [(f.2.2.2.2 r hr).1]; exact h.2 k hk⟩
section DIG
variable {S : Option (Nat × (Nat → Int32))}
theorem i32_16 : (16 : Int32) = nI 16 := rfl
theorem s198a {r : Nat} {y1 : Int64} {x3 : Int32} : ∀ (d i : Nat) (H : jm_H), i + d = 16 → jm_tg H r = 100 → jm_ln H r = 16 → (∀ k, k < i → jm_I H r k = 0) → ∃ H1, (∀ k, k < 16 → jm_I H1 r k = 0) ∧ jf_fr (fun q => q = r) H H1 ∧ ∀ Q, jm_w S 1 198 3 [.ref r, .long y1, .null, .int x3, .int (nI i), .null, .null] [] H Q = jm_w S 1 198 21 [.ref r, .long y1, .null, .int x3, .int (nI 16), .null, .null] [] H1 Q
  | 0, i, H, hd, ht, hl, hz => by
    refine ⟨H, fun k hk => hz k (by omega), jf_fr_refl H, fun Q => ?_⟩
    have : i = 16 := by omega
    subst this
    rw [u198_3, i32_16, if_pos (by decide)]
  | d + 1, i, H, hd, ht, hl, hz => by
    obtain ⟨H1, z1, f1, q1⟩ := s198a d (i + 1) (jm_pI H r i 0) (by omega) ht hl (fun k hk => by
      rw [jm_I_pI]
      by_cases h : k = i
      · rw [if_pos ⟨rfl, h⟩]
      · rw [if_neg (fun g => h g.2)]
        exact hz k (by omega))
    refine ⟨H1, z1, jf_fr_trans (jf_fr_pI rfl) f1, fun Q => ?_⟩
    rw [u198_3, i32_16, if_neg (show ¬ nI 16 ≤ nI i from fun g => by have := (nI_leI (by decide) (by omega)).mp g; omega), u198_10 (by rw [hl]; exact nI_inK (by omega) (by decide)) ht, nI_cl (by omega), nI_succK]
    exact q1 Q
/-- the digits from below laid one by one -/
theorem s198b {r D : Nat} {y1 : Int64} {x3 : Int32} (hD : D < 65536 ^ 16) : ∀ (d i : Nat) (H : jm_H), i + d = 16 → D / 65536 ^ i < 4611686018427387904 → jm_tg H r = 100 → jm_ln H r = 16 → (∀ k, k < 16 → jm_I H r k = nI (if k < i then jq_d D k else 0)) → ∃ H1, jq_dg H1 r D ∧ jf_fr (fun q => q = r) H H1 ∧ ∀ Q, jm_w S 1 198 41 [.ref r, .long y1, .null, .int x3, .int (nI i), .long (lN (D / 65536 ^ i)), .null] [] H Q = Q none H1
  | 0, i, H, hd, hb, ht, hl, hz => by
    have : i = 16 := by omega
    subst this
    refine ⟨H, ⟨hD, fun k hk => by rw [hz k hk, if_pos hk]⟩, jf_fr_refl H, fun Q => ?_⟩
    rw [u198_41, Nat.div_eq_of_lt hD, if_pos (by decide), u198_72]
  | d + 1, i, H, hd, hb, ht, hl, hz => by
    by_cases h0 : D / 65536 ^ i = 0
    · refine ⟨H, ⟨hD, fun k hk => ?_⟩, jf_fr_refl H, fun Q => ?_⟩
      · rw [hz k hk]
        by_cases h : k < i
        · rw [if_pos h]
        · rw [if_neg h]
          have hdz : D / 65536 ^ k = 0 := by
            have h1 : D < 65536 ^ i := by
              rcases Nat.div_eq_zero_iff.mp h0 with g | g
              · have := jq_pp i
                omega
              · exact g
            exact Nat.div_eq_of_lt (Nat.lt_of_lt_of_le h1 (Nat.pow_le_pow_right (by decide) (by omega)))
          unfold jq_d
          rw [hdz]
      · rw [u198_41, h0, if_pos (by decide), u198_72]
    · have eand : lN (D / 65536 ^ i) &&& (65535 : Int64) = lN (jq_d D i) := by
        rw [show (65535 : Int64) = lN (2 ^ 16 - 1) from rfl, lN_and, Nat.and_two_pow_sub_one_eq_mod]
        rfl
      have esh : lN (D / 65536 ^ i) >>> (Int32.toInt64 (16 : Int32) &&& 63) = lN (D / 65536 ^ (i + 1)) := by
        have := lN_shr (a := D / 65536 ^ i) (k := 16) (by omega) (by decide)
        rw [jq_dv]
        exact this
      have hle : D / 65536 ^ (i + 1) ≤ D / 65536 ^ i := by
        rw [jq_dv]
        exact Nat.div_le_self _ _
      obtain ⟨H1, z1, f1, q1⟩ := s198b hD d (i + 1) (jm_pI H r i (nI (jq_d D i))) (by omega) (Nat.lt_of_le_of_lt hle hb) ht hl (fun k hk => by
        rw [jm_I_pI]
        by_cases h : k = i
        · rw [if_pos ⟨rfl, h⟩, if_pos (by omega), h]
        · rw [if_neg (fun g => h g.2), hz k hk]
          by_cases h2 : k < i
          · rw [if_pos h2, if_pos (by omega)]
          · rw [if_neg h2, if_neg (by omega)])
      refine ⟨H1, z1, jf_fr_trans (jf_fr_pI rfl) f1, fun Q => ?_⟩
      rw [u198_41, if_neg (by rw [lg_cmp_le, lN_0L, lN_leS (by omega) (by decide)]; exact fun g => h0 (Nat.le_zero.mp g)), u198_48 (by rw [hl]; exact nI_inK (by omega) (by decide)) ht, nI_cl (by omega), nI_succK, eand, esh, lN_i]
      exact q1 Q
theorem c198 {r m : Nat} {p : Int} {H : jm_H} (ht : jm_tg H r = 100) (hl : jm_ln H r = 16) (hm : m < 2 ^ 24) (hp : -112 ≤ p ∧ p ≤ 112) : ∃ H1, jq_dg H1 r (m * 2 ^ (p + 112).toNat) ∧ jf_fr (fun q => q = r) H H1 ∧ ∀ Q, jm_c S 198 [.ref r, .long (lN m), .int (jI p)] H Q = Q none H1 := by
  obtain ⟨t, ht2, rfl⟩ : ∃ t : Nat, t ≤ 224 ∧ p = (t : Int) - 112 := ⟨(p + 112).toNat, by omega, by omega⟩
  have et : ((t : Int) - 112 + 112).toNat = t := by omega
  rw [et]
  have e0 : jI ((t : Int) - 112) + (112 : Int32) = nI t := by
    rw [show (112 : Int32) = jI 112 from by decide, jI_add, jI_n]
    congr 1
    omega
  have ed : nI t / (16 : Int32) = nI (t / 16) := by rw [i32_16, pk_div (by omega) (by decide) (by decide)]
  have er : nI t - nI t / (16 : Int32) * (16 : Int32) = nI (t % 16) := by rw [i32_16, pk_rem (by omega) (by decide) (by decide)]
  have hD : m * 2 ^ t < 65536 ^ 16 := by
    have h1 : 2 ^ t ≤ 2 ^ 224 := p2_le ht2
    have := Nat.mul_lt_mul_of_lt_of_le hm h1 (by decide)
    exact Nat.lt_of_lt_of_le this (by decide)
  have edv : m * 2 ^ t / 65536 ^ (t / 16) = m * 2 ^ (t % 16) := by
    rw [jq_pw]
    have h1 : 2 ^ t = 2 ^ (t % 16) * 2 ^ (16 * (t / 16)) := by rw [← Nat.pow_add]; congr 1; omega
    rw [h1, ← Nat.mul_assoc, Nat.mul_div_cancel _ (Nat.two_pow_pos _)]
  have hb : m * 2 ^ (t % 16) < 4611686018427387904 := by
    have h1 : 2 ^ (t % 16) ≤ 2 ^ 16 := p2_le (by omega)
    have := Nat.mul_le_mul (Nat.le_of_lt hm) h1
    omega
  obtain ⟨G, zG, fG, qG⟩ := s198a (S := S) (y1 := lN m) (x3 := jI ((t : Int) - 112)) 16 0 H (by decide) ht hl (fun k hk => absurd hk (Nat.not_lt_zero k))
  have tG : jm_tg G r = 100 := by rw [fG.2.1]; exact ht
  have lG : jm_ln G r = 16 := by rw [fG.2.2.1]; exact hl
  obtain ⟨H1, z1, f1, q1⟩ := s198b (S := S) (y1 := lN m) (x3 := jI ((t : Int) - 112)) hD (16 - t / 16) (t / 16) G (by omega) (by rw [edv]; exact hb) tG lG (fun k hk => by
    rw [zG k hk]
    by_cases h : k < t / 16
    · rw [if_pos h]
      have hdz : m * 2 ^ t / 65536 ^ k % 65536 = 0 := by
        rw [jq_pw]
        have h1 : 2 ^ t = 2 ^ (t - 16 * k - 16) * 65536 * 2 ^ (16 * k) := by
          rw [show (65536 : Nat) = 2 ^ 16 from by decide, ← Nat.pow_add, ← Nat.pow_add]
          congr 1
          omega
        rw [h1, ← Nat.mul_assoc, Nat.mul_div_cancel _ (Nat.two_pow_pos _), ← Nat.mul_assoc, Nat.mul_mod_left]
      unfold jq_d
      rw [hdz]
      rfl
    · rw [if_neg h]; rfl)
  refine ⟨H1, z1, jf_fr_trans fG f1, fun Q => ?_⟩
  rw [en198, u198_0]
  show jm_w S 1 198 3 [.ref r, .long (lN m), .null, .int (jI ((t : Int) - 112)), .int (nI 0), .null, .null] [] H Q = _
  rw [qG, u198_21, e0, er, ed, lN_shl _ (by omega), ← edv]
  exact q1 Q
theorem jq_dlt {A B k : Nat} (h : A / 65536 ^ (k + 1) = B / 65536 ^ (k + 1)) (hd : jq_d A k < jq_d B k) : A < B := by
  unfold jq_d at hd
  rw [jq_dv, jq_dv] at h
  have : A / 65536 ^ k < B / 65536 ^ k := by omega
  exact Nat.lt_of_div_lt_div this
theorem s199 {r r' A B : Nat} {H : jm_H} (hA : jq_dg H r A) (hB : jq_dg H r' B) (hr : r ≠ 1) (hr' : r' ≠ 1) (ht : jm_tg H r = 100) (ht' : jm_tg H r' = 100) (hl : jm_ln H r = 16) (hl' : jm_ln H r' = 16) {Q : Option Value → jm_H → Prop} : ∀ m : Nat, m ≤ 16 → A / 65536 ^ m = B / 65536 ^ m → jm_w S 1 199 3 [.ref r, .ref r', .int (jI ((m : Int) - 1))] [] H Q = Q (some (.int (jI (jq_cmp A B)))) H
  | 0, hm, h => by
    rw [Nat.pow_zero, Nat.div_one, Nat.div_one] at h
    rw [u199_3, if_pos (by decide), u199_22, if_neg (by decide), u199_26, u199_44, h, jq_cmp_eq]
    rfl
  | m + 1, hm, h => by
    have e : jI (((m + 1 : Nat) : Int) - 1) = nI m := by rw [jI_n]; congr 1; omega
    have a := hA.2 m (by omega)
    have b := hB.2 m (by omega)
    have la := jq_d_lt A m
    have lb := jq_d_lt B m
    have zq : (nI (jq_d A m) = nI (jq_d B m)) = (jq_d A m = jq_d B m) := propext (nI_eqI (by omega) (by omega))
    have zl : (nI (jq_d B m) ≤ nI (jq_d A m)) = (jq_d B m ≤ jq_d A m) := propext (nI_leI (by omega) (by omega))
    have g0 : ¬ nI m < 0 := nI_geK (by omega)
    have g1 : (0 : Int32) ≤ nI m := Int32.not_lt.mp g0
    have in1 : ¬ (nI m < 0 ∨ jm_ln H r ≤ (nI m).toNatClampNeg) := by rw [hl]; exact nI_inK (by omega) (by decide)
    have in2 : ¬ (nI m < 0 ∨ jm_ln H r' ≤ (nI m).toNatClampNeg) := by rw [hl']; exact nI_inK (by omega) (by decide)
    rw [e, u199_3, if_neg g0, u199_7 in1 hr ht in2 hr' ht', nI_cl (by omega), a, b, ite_eqP (congrArg Not zq)]
    by_cases hq : jq_d A m = jq_d B m
    · have hs : A / 65536 ^ m = B / 65536 ^ m := by
        unfold jq_d at hq
        rw [jq_dv, jq_dv] at h
        omega
      rw [if_neg (fun g => g hq), u199_16, show nI m + (-1 : Int32) = jI ((m : Int) - 1) by rw [jI_n, jI_m1, jI_add]; rfl]
      exact s199 hA hB hr hr' ht ht' hl hl' m (by omega) hs
    · rw [if_pos hq, u199_22, if_pos g1, u199_30 in1 hr ht in2 hr' ht', nI_cl (by omega), a, b, ite_eqP zl]
      by_cases hlt : jq_d B m ≤ jq_d A m
      · rw [if_pos hlt, u199_43, u199_44, jq_cmp_gt (jq_dlt h.symm (by omega))]
        rfl
      · rw [if_neg hlt, u199_39, u199_44, jq_cmp_lt (jq_dlt h (by omega))]
        rfl
theorem c199 {r r' A B : Nat} {H : jm_H} (hA : jq_dg H r A) (hB : jq_dg H r' B) (hr : r ≠ 1) (hr' : r' ≠ 1) (ht : jm_tg H r = 100) (ht' : jm_tg H r' = 100) (hl : jm_ln H r = 16) (hl' : jm_ln H r' = 16) {Q : Option Value → jm_H → Prop} : jm_c S 199 [.ref r, .ref r'] H Q = Q (some (.int (jI (jq_cmp A B)))) H := by
  rw [en199, u199_0]
  have := s199 (S := S) (Q := Q) hA hB hr hr' ht ht' hl hl' 16 (by decide) (by rw [Nat.div_eq_of_lt hA.1, Nat.div_eq_of_lt hB.1])
  exact this
end DIG
