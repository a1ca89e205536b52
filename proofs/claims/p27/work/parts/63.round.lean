set_option maxRecDepth 20000
/-! the class rounds: head, cut, the whole -/
section CUT
variable {S : Option (Nat × (Nat → Int32))} {H : jm_H} {Q : Option Value → jm_H → Prop}
theorem jI_shrW {s : Int} {w : Nat} (hs : -1000 ≤ s ∧ s ≤ 1000) (hw : w ≤ 2) : jI s >>> (nI w &&& 31) = jI (s / ((2 ^ w : Nat) : Int)) := by
  rw [jI_n w, jI_shr ⟨by omega, by omega⟩ (by omega)]
theorem jq_sdiv {s : Int} {w : Nat} (hs : -1000 ≤ s ∧ s ≤ 1000) (hw : w ≤ 2) : -1000 ≤ s / ((2 ^ w : Nat) : Int) ∧ s / ((2 ^ w : Nat) : Int) ≤ 1000 := by
  match w, hw with
  | 0, _ => show -1000 ≤ s / 1 ∧ s / 1 ≤ 1000; omega
  | 1, _ => show -1000 ≤ s / 2 ∧ s / 2 ≤ 1000; omega
  | 2, _ => show -1000 ≤ s / 4 ∧ s / 4 ≤ 1000; omega
theorem c62 {s : Int} {w : Nat} (hs : -1000 ≤ s ∧ s ≤ 1000) (hw : w ≤ 2) : jm_c S 62 [.int (jI s), .int (nI w)] H Q = Q (some (.int (nI (jq_hb w s)))) H := by
  have hd := jq_sdiv hs hw
  rw [en62, u62_0, jI_shrW hs hw, jI_0, if_ltI ⟨by omega, by omega⟩ (by decide)]
  unfold jq_hb
  by_cases h : s / ((2 ^ w : Nat) : Int) < 0
  · rw [if_pos h, if_neg (by omega), u62_14, u62_17, jI_1, jI_sub, jI_n, jI_add, jI_n, show 1 - s / ((2 ^ w : Nat) : Int) + (w : Int) = (((1 - s / ((2 ^ w : Nat) : Int)).toNat + w : Nat) : Int) by omega]
  · rw [if_neg h, if_pos (by omega), u62_8, u62_17, show (2 : Int32) = jI 2 from by decide, jI_add, jI_n, jI_add, jI_n, show s / ((2 ^ w : Nat) : Int) + 2 + (w : Int) = (((s / ((2 ^ w : Nat) : Int)).toNat + 2 + w : Nat) : Int) by omega]
theorem c61 {s : Int} {w : Nat} (hs : -1000 ≤ s ∧ s ≤ 1000) (hw : w ≤ 2) (hg : s / ((2 ^ w : Nat) : Int) ≤ 50) : jm_c S 61 [.int (jI s), .int (nI w)] H Q = Q (some (.long (lN (jq_hd w s)))) H := by
  have hd := jq_sdiv hs hw
  have hp := Nat.two_pow_pos w
  have hm0 : 0 ≤ s % ((2 ^ w : Nat) : Int) := Int.emod_nonneg _ (by omega)
  have hm1 : s % ((2 ^ w : Nat) : Int) < ((2 ^ w : Nat) : Int) := Int.emod_lt_of_pos _ (by omega)
  have e3 : Int32.toInt64 (jI s &&& (((1 : Int32) <<< (nI w &&& 31)) - (1 : Int32))) = lN (s % ((2 ^ w : Nat) : Int)).toNat := by
    rw [nI_p2 (by omega), nI_mskz _ (by omega), show s % ((2 ^ w : Nat) : Int) = ((s % ((2 ^ w : Nat) : Int)).toNat : Int) by omega, ← jI_n, Int.toNat_natCast]
    have h4 : 2 ^ w ≤ 4 := p2_le (m := 2) hw
    exact nI_l (by omega)
  rw [en61, u61_0, jI_shrW hs hw, jI_0, if_ltI ⟨by omega, by omega⟩ (by decide)]
  unfold jq_hd
  by_cases h : s / ((2 ^ w : Nat) : Int) < 0
  · rw [if_pos h, if_neg (by omega), u61_20, u61_21, e3, lN_1L, lN_shl _ (by omega), lN_ors _ (by omega)]
  · rw [if_neg h, if_pos (by omega), u61_8, u61_21, e3, show (2 : Int32) = jI 2 from by decide, jI_add, show s / ((2 ^ w : Nat) : Int) + 2 = (((s / ((2 ^ w : Nat) : Int)).toNat + 2 : Nat) : Int) by omega, ← jI_n, lN_p2 (by omega), show (2 : Int64) = lN 2 from rfl]
    have h2 : 2 ≤ 2 ^ ((s / ((2 ^ w : Nat) : Int)).toNat + 2) := p2_le (n := 1) (by omega)
    rw [lN_sub h2, lN_shl _ (by omega), lN_ors _ (by omega)]
theorem c63 {r x : Nat} {t : Int} (ht : jm_tg H r = 4) (hx : x < 4611686018427387904) (ht1 : -31 ≤ t) (ht2 : t ≤ 61) : jm_c S 63 [.ref r, .long (lN x), .int (jI t)] H Q = Q (some (.int (nI (jq_cut x t).1))) (jm_pI H r 3 (jI (jq_cut x t).2)) := by
  rw [en63, u63_0 ht, jI_0, if_ltI (by decide) ⟨by omega, by omega⟩]
  unfold jq_cut
  by_cases h : 0 < t
  · obtain ⟨k, hk, rfl⟩ : ∃ k : Nat, (0 < k ∧ k ≤ 61) ∧ t = (k : Int) := ⟨t.toNat, by omega, by omega⟩
    have hp := Nat.two_pow_pos k
    have hh := p2_half (show 1 ≤ k by omega)
    have hle : 2 ^ k ≤ 2 ^ 61 := p2_le (by omega)
    have hr : x % 2 ^ k < 2 ^ k := Nat.mod_lt _ hp
    have hq : x / 2 ^ k ≤ x := Nat.div_le_self _ _
    have e1 : jI (k : Int) - (1 : Int32) = nI (k - 1) := by rw [← jI_n, nI_1L, pk_sub (by omega)]
    have c0 : (lg_cmp (lN (x % 2 ^ k)) (0 : Int64) = 0) = (x % 2 ^ k = 0) := by rw [lg_cmp0]; exact propext (lN_eqS (b := 0) (by omega) (by decide))
    have cg : (0 < lg_cmp (lN (x % 2 ^ k)) (lN (2 ^ (k - 1)))) = (2 ^ k < 2 * (x % 2 ^ k)) := by
      rw [lg_cmp_gt]
      apply propext
      rw [lN_ltS (by omega) (by omega)]
      omega
    have ce : (lg_cmp (lN (x % 2 ^ k)) (lN (2 ^ (k - 1))) = 0) = (2 * (x % 2 ^ k) = 2 ^ k) := by
      rw [lg_cmp_eq]
      apply propext
      rw [lN_eqS (by omega) (by omega)]
      omega
    have co : (lg_cmp (lN (x / 2 ^ k) &&& (1 : Int64)) (1 : Int64) = 0) = (x / 2 ^ k % 2 = 1) := by
      rw [lg_cmp_eq, lN_bit0]
      exact propext (lN_eqS (b := 1) (by omega) (by decide))
    have hup : jm_w S 1 63 66 [.ref r, .long (lN x), .null, .int (jI (k : Int)), .long (lN (x / 2 ^ k)), .null, .long (lN (x % 2 ^ k)), .null, .long (lN (2 ^ (k - 1))), .null, .null] [.int (1 : Int32)] (jm_pI H r 3 (jI 0)) Q = if x % 2 ^ k = 0 then Q (some (.int (nI (x / 2 ^ k + 1)))) (jm_pI H r 3 (jI 0)) else Q (some (.int (nI (x / 2 ^ k + 1)))) (jm_pI H r 3 (jI 1)) := by
      have fin : ∀ G : jm_H, jm_w S 1 63 89 [.ref r, .long (lN x), .null, .int (jI (k : Int)), .long (lN (x / 2 ^ k)), .null, .long (lN (x % 2 ^ k)), .null, .long (lN (2 ^ (k - 1))), .null, .int (1 : Int32)] [] G Q = Q (some (.int (nI (x / 2 ^ k + 1)))) G := by
        intro G
        rw [u63_89, if_neg (by decide), u63_94, u63_103, lN_1, lN_i]
      rw [u63_66]
      simp only [c0]
      by_cases h0 : x % 2 ^ k = 0
      · rw [if_pos h0, if_pos h0, fin]
      · rw [if_neg h0, if_neg h0, u63_75, if_neg (by decide), u63_81, u63_86 (tgI ht), fin, pI_same, jI_1]
    have hdn : jm_w S 1 63 66 [.ref r, .long (lN x), .null, .int (jI (k : Int)), .long (lN (x / 2 ^ k)), .null, .long (lN (x % 2 ^ k)), .null, .long (lN (2 ^ (k - 1))), .null, .null] [.int (0 : Int32)] (jm_pI H r 3 (jI 0)) Q = if x % 2 ^ k = 0 then Q (some (.int (nI (x / 2 ^ k)))) (jm_pI H r 3 (jI 0)) else Q (some (.int (nI (x / 2 ^ k)))) (jm_pI H r 3 (jI (-1))) := by
      have fin : ∀ G : jm_H, jm_w S 1 63 89 [.ref r, .long (lN x), .null, .int (jI (k : Int)), .long (lN (x / 2 ^ k)), .null, .long (lN (x % 2 ^ k)), .null, .long (lN (2 ^ (k - 1))), .null, .int (0 : Int32)] [] G Q = Q (some (.int (nI (x / 2 ^ k)))) G := by
        intro G
        rw [u63_89, if_pos rfl, u63_101, u63_103, lN_i]
      rw [u63_66]
      simp only [c0]
      by_cases h0 : x % 2 ^ k = 0
      · rw [if_pos h0, if_pos h0, fin]
      · rw [if_neg h0, if_neg h0, u63_75, if_pos rfl, u63_85, u63_86 (tgI ht), fin, pI_same, jI_m1]
    rw [if_pos h, if_neg (by omega), Int.toNat_natCast, u63_15, e1, ← jI_n, lN_p2 (by omega), lN_p2 (by omega), lN_msk, lN_shr (by omega) (by omega)]
    rw [← jI_n] at hup hdn
    simp only [cg]
    by_cases hz : x % 2 ^ k = 0
    · rw [if_neg (by omega), u63_44, if_pos (by rw [ce]; omega), u63_65, hdn, if_pos hz, if_pos hz]
    · by_cases h1 : 2 ^ k < 2 * (x % 2 ^ k)
      · rw [if_pos h1, u63_61, hup, if_neg hz, if_neg hz, if_pos (Or.inl h1)]
      · rw [if_neg h1, u63_44]
        simp only [ce]
        by_cases h2 : 2 * (x % 2 ^ k) = 2 ^ k
        · rw [if_neg (fun g => g h2), u63_52]
          simp only [co]
          by_cases h3 : x / 2 ^ k % 2 = 1
          · rw [if_neg (fun g => g h3), u63_61, hup, if_neg hz, if_neg hz, if_pos (Or.inr ⟨h2, h3⟩)]
          · rw [if_pos h3, u63_65, hdn, if_neg hz, if_neg hz, if_neg (by omega)]
        · rw [if_pos h2, u63_65, hdn, if_neg hz, if_neg hz, if_neg (by omega)]
  · obtain ⟨k, hk, rfl⟩ : ∃ k : Nat, k ≤ 31 ∧ t = -(k : Int) := ⟨(-t).toNat, by omega, by omega⟩
    rw [if_neg h, if_pos (by omega), u63_9, jI_neg, Int.neg_neg, ← jI_n, lN_shl _ (by omega), lN_i, Int.toNat_natCast]
end CUT
