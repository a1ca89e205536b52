set_option maxRecDepth 20000
/-! a row of another size taken for one of this: no value of sense, but all in bounds -/
def jg_neg (N A : Nat) : Nat := ((-(A : Int)) % ((2 ^ N : Nat) : Int)).toNat
def jg_bare (N A : Nat) : Nat := if A ≤ 2 ^ (N - 1) then A else jg_neg N A
theorem jg_neg_lt (N A : Nat) : jg_neg N A < 2 ^ N := by
  have hp := Nat.two_pow_pos N
  have h1 := Int.emod_nonneg (-(A : Int)) (show ((2 ^ N : Nat) : Int) ≠ 0 by omega)
  have h2 := Int.emod_lt_of_pos (-(A : Int)) (show (0 : Int) < ((2 ^ N : Nat) : Int) by omega)
  unfold jg_neg
  omega
theorem jg_bare_lt {N A : Nat} (h1 : 1 ≤ N) : jg_bare N A < 2 ^ N := by
  have hh := p2_half h1
  have hp := Nat.two_pow_pos (N - 1)
  unfold jg_bare
  split
  · omega
  · exact jg_neg_lt N A
def jg_rf (n w A : Nat) : Bool := decide (0 < jf_mant n w A ∧ jf_mant n w A < 2048) && decide (-44 ≤ jf_pow n w A ∧ jf_pow n w A ≤ 44) && decide (-44 ≤ (Nat.log2 (jf_mant n w A) : Int) + jf_pow n w A ∧ (Nat.log2 (jf_mant n w A) : Int) + jf_pow n w A ≤ 44)
def jg_rfs (n w : Nat) : Bool := jq_all (jg_rf n w) (2 ^ n)
theorem jg_rf3 : jq_all (jg_rfs 3) 3 = true := by decide +kernel
theorem jg_rf4 : jq_all (jg_rfs 4) 3 = true := by decide +kernel
theorem jg_rf5 : jq_all (jg_rfs 5) 3 = true := by decide +kernel
theorem jg_rf6 : jq_all (jg_rfs 6) 3 = true := by decide +kernel
theorem jg_rf7 : jq_all (jg_rfs 7) 3 = true := by decide +kernel
theorem jg_rf8 : jq_all (jg_rfs 8) 3 = true := by decide +kernel
theorem jg_rf9 : jq_all (jg_rfs 9) 3 = true := by decide +kernel
theorem jg_rf10 : jq_all (jg_rfs 10) 3 = true := by decide +kernel
theorem jg_rf11 : jq_all (jg_rfs 11) 3 = true := by decide +kernel
theorem jg_rf12_0 : jg_rfs 12 0 = true := by decide +kernel
theorem jg_rf12_1 : jg_rfs 12 1 = true := by decide +kernel
theorem jg_rf12_2 : jg_rfs 12 2 = true := by decide +kernel
theorem jg_rfa {n w : Nat} (h1 : 3 ≤ n) (h2 : n ≤ 12) (hw : w ≤ 2) : jg_rfs n w = true := by
  match n, h1, h2 with
  | 3, _, _ => exact jq_all_at jg_rf3 w (by omega)
  | 4, _, _ => exact jq_all_at jg_rf4 w (by omega)
  | 5, _, _ => exact jq_all_at jg_rf5 w (by omega)
  | 6, _, _ => exact jq_all_at jg_rf6 w (by omega)
  | 7, _, _ => exact jq_all_at jg_rf7 w (by omega)
  | 8, _, _ => exact jq_all_at jg_rf8 w (by omega)
  | 9, _, _ => exact jq_all_at jg_rf9 w (by omega)
  | 10, _, _ => exact jq_all_at jg_rf10 w (by omega)
  | 11, _, _ => exact jq_all_at jg_rf11 w (by omega)
  | 12, _, _ => exact jq_w3 hw jg_rf12_0 jg_rf12_1 jg_rf12_2
theorem jg_row {n w A : Nat} (h1 : 3 ≤ n) (h2 : n ≤ 12) (hw : w ≤ 2) (hA : A < 2 ^ n) : (0 < jf_mant n w A ∧ jf_mant n w A < 2048) ∧ (-44 ≤ jf_pow n w A ∧ jf_pow n w A ≤ 44) ∧ -44 ≤ (Nat.log2 (jf_mant n w A) : Int) + jf_pow n w A ∧ (Nat.log2 (jf_mant n w A) : Int) + jf_pow n w A ≤ 44 := by
  have h : jg_rf n w A = true := jq_all_at (jg_rfa h1 h2 hw) A hA
  unfold jg_rf at h
  simp only [Bool.and_eq_true, decide_eq_true_eq] at h
  exact ⟨h.1.1, h.1.2, h.2⟩
theorem jg_om_pos {N W B : Nat} (h1 : 3 ≤ N) (h2 : N ≤ 12) (hw : W ≤ 2) (hB : B < 2 ^ N) : 0 < jq_om N W B ∧ jq_om N W B < 2048 ∧ -44 ≤ jq_op N W B ∧ jq_op N W B ≤ 56 ∧ -44 ≤ (Nat.log2 (jq_om N W B) : Int) + jq_op N W B ∧ (Nat.log2 (jq_om N W B) : Int) + jq_op N W B ≤ 44 := by
  obtain ⟨hm, hp, hs⟩ := jg_row h1 h2 hw hB
  have hd := jf_tz_dvd 12 (jf_mant N W B)
  have hl := jf_tz_le 12 (jf_mant N W B)
  have hle : jq_om N W B ≤ jf_mant N W B := Nat.div_le_self _ _
  have hpos : 0 < jq_om N W B := by
    rcases Nat.eq_zero_or_pos (jq_om N W B) with h | h
    · unfold jq_om at h
      rw [h, Nat.zero_mul] at hd
      omega
    · exact h
  have hlg : Nat.log2 (jq_om N W B) + jf_tz 12 (jf_mant N W B) = Nat.log2 (jf_mant N W B) := lg_div (by
    have h1 : 1 * 2 ^ jf_tz 12 (jf_mant N W B) ≤ jq_om N W B * 2 ^ jf_tz 12 (jf_mant N W B) := Nat.mul_le_mul_right _ hpos
    have hd' : jq_om N W B * 2 ^ jf_tz 12 (jf_mant N W B) = jf_mant N W B := hd
    omega)
  unfold jq_op
  exact ⟨hpos, by omega, by omega, by omega, by omega, by omega⟩
def jg_val (N W A : Nat) : Option (Int × Nat × Int) := if A = 0 then some (0, 0, 0) else if A = 2 ^ (N - 1) then none else some (if jg_bare N A = A then 1 else -1, jq_om N W (jg_bare N A), jq_op N W (jg_bare N A))
theorem jg_val_b {N W A : Nat} (h1 : 3 ≤ N) (h2 : N ≤ 12) (hw : W ≤ 2) : jq_b 11 44 56 (jg_val N W A) := by
  unfold jg_val
  by_cases h0 : A = 0
  · rw [if_pos h0]
    exact ⟨Or.inr (Or.inl rfl), ⟨fun _ => rfl, fun _ => rfl⟩, by decide, by decide, fun h => absurd rfl h⟩
  · rw [if_neg h0]
    by_cases hn : A = 2 ^ (N - 1)
    · rw [if_pos hn]; trivial
    · rw [if_neg hn]
      obtain ⟨o1, o2, o3, o4, o5⟩ := jg_om_pos h1 h2 hw (jg_bare_lt (N := N) (A := A) (by omega))
      have k1 : jq_om N W (jg_bare N A) < 2 ^ 11 := o2
      have k2 : ¬ jq_om N W (jg_bare N A) = 0 := by omega
      by_cases h : jg_bare N A = A
      · rw [if_pos h]
        exact ⟨Or.inr (Or.inr rfl), ⟨fun h => absurd h (show ¬ (1 : Int) = 0 by decide), fun h => absurd h k2⟩, k1, ⟨by dsimp only; omega, by dsimp only; omega⟩, fun _ => ⟨by dsimp only; omega, by dsimp only; omega⟩⟩
      · rw [if_neg h]
        exact ⟨Or.inl rfl, ⟨fun h => absurd h (show ¬ (-1 : Int) = 0 by decide), fun h => absurd h k2⟩, k1, ⟨by dsimp only; omega, by dsimp only; omega⟩, fun _ => ⟨by dsimp only; omega, by dsimp only; omega⟩⟩
section STALE
variable {S : Option (Nat × (Nat → Int32))} {H : jm_H} {Q : Option Value → jm_H → Prop}
theorem c64g {N A : Nat} (hN : N ≤ 12) : jm_c S 64 [.int (nI N), .int (nI A)] H Q = Q (some (.int (nI (jg_neg N A)))) H := by
  have hp := Nat.two_pow_pos N
  have h1 := Int.emod_nonneg (-(A : Int)) (show ((2 ^ N : Nat) : Int) ≠ 0 by omega)
  rw [en64, u64_0, nI_p2 (by omega), jI_n A, jI_neg, nI_mskz _ (by omega), jI_n (jg_neg N A)]
  unfold jg_neg
  rw [Int.toNat_of_nonneg h1]
theorem c71g {N A : Nat} (h1 : 1 ≤ N) (h2 : N ≤ 12) (hA : A < 4096) : jm_c S 71 [.int (nI N), .int (nI A)] H Q = Q (some (.int (nI (jg_bare N A)))) H := by
  have hp := p2_12 h2
  have hh := p2_half h1
  rw [en71, u71_0, c50 h1 (by omega)]
  simp only [Option.toList_some, List.cons_append, List.nil_append]
  rw [u71_5, u71_8, c64g h2]
  simp only [Option.toList_some, List.append_nil]
  rw [u71_13, u71_16, u71_17, u71_17]
  simp only [nI_leI (show A < 2147483648 by omega) (show 2 ^ (N - 1) < 2147483648 by omega)]
  unfold jg_bare
  by_cases h : A ≤ 2 ^ (N - 1)
  · rw [if_pos h, if_pos h]
  · rw [if_neg h, if_neg h]
theorem c68g {r q N W A : Nat} (ht : jm_tg H r = 3) (hr : jm_R H r 0 = q) (hq : q ≠ 0) (hne : q ≠ r) (htq : jm_tg H q = 5) (h1 : 3 ≤ N) (h2 : N ≤ 12) (hw : W ≤ 2) (hA : A < 4096) : ∃ H1, jq_is H1 r (jg_val N W A) ∧ (A ≠ 0 → A ≠ 2 ^ (N - 1) → jq_pt H1 q N W (jg_bare N A)) ∧ jf_fr (fun x => x = r ∨ x = q) H H1 ∧ ∀ Q, jm_c S 68 [.ref r, .int (nI N), .int (nI W), .int (nI A)] H Q = Q none H1 := by
  have hp := p2_12 h2
  have hh := p2_half (show 1 ≤ N by omega)
  by_cases h0 : A = 0
  · subst h0
    obtain ⟨H1, i1, f1, q1⟩ := c48' (S := S) (H := H) (s := 0) (m := 0) (p := 0) ht (by decide) (fun _ => rfl)
    refine ⟨H1, ?_, fun h => absurd rfl h, jf_fr_mono f1 (fun x hx => Or.inl hx), fun Q => ?_⟩
    · unfold jg_val
      rw [if_pos rfl]
      exact i1
    · rw [en68, u68_0, if_neg (by decide), u68_4 ht]
      show jm_c S 48 [.ref r, .int (jI 0), .long (lN 0), .int (jI 0)] H _ = _
      rw [q1]
      simp only [Option.toList_none, List.nil_append]
      rw [u68_11]
  · have z : ¬ nI A = (0 : Int32) := fun h => h0 ((nI_eqI (b := 0) (by omega) (by decide)).mp h)
    by_cases hn : A = 2 ^ (N - 1)
    · subst hn
      obtain ⟨H1, i1, f1, q1⟩ := c70' (S := S) (H := H) ht
      refine ⟨H1, ?_, fun _ h => absurd rfl h, jf_fr_mono f1 (fun x hx => Or.inl hx), fun Q => ?_⟩
      · unfold jg_val
        rw [if_neg h0, if_pos rfl]
        exact i1
      · rw [en68, u68_0, if_pos z, u68_12, c69 (by omega) (by omega) (by omega), if_pos rfl]
        simp only [Option.toList_some, List.append_nil]
        rw [u68_17, if_neg i1_0, u68_20 ht, q1]
        simp only [Option.toList_none, List.nil_append]
        rw [u68_24]
    · have hB : jg_bare N A < 2 ^ N := jg_bare_lt (by omega)
      obtain ⟨hm, hpw, hs⟩ := jg_row h1 h2 hw hB
      have ho := jg_om_pos h1 h2 hw hB
      have hfb := jf_fb_le N W (jg_bare N A)
      have hex := jf_exp_le (N := N) (W := W) (A := jg_bare N A) (by omega) hw
      have hl := jf_tz_le 12 (jf_mant N W (jg_bare N A))
      have hfr : jf_frac N W (jg_bare N A) < 2 ^ jf_fb N W (jg_bare N A) := Nat.mod_lt _ (p2_pos _)
      have hpf : 2 ^ jf_fb N W (jg_bare N A) ≤ 1024 := p2_le (m := 10) (by omega)
      -- the parts are taken
      let G : jm_H := jm_pI (jm_pI (jm_pI (jm_pI (jm_pI H q 0 (nI (jf_run N (jg_bare N A)))) q 1 (jI (jf_reg N (jg_bare N A)))) q 2 (nI (jf_exp N W (jg_bare N A)))) q 3 (nI (jf_fb N W (jg_bare N A)))) q 4 (nI (jf_frac N W (jg_bare N A)))
      have fG : jf_fr (fun x => x = q) H G := jf_fr_trans (jf_fr_trans (jf_fr_trans (jf_fr_trans (jf_fr_pI rfl) (jf_fr_pI rfl)) (jf_fr_pI rfl)) (jf_fr_pI rfl)) (jf_fr_pI rfl)
      have pG : jq_pt G q N W (jg_bare N A) := by
        unfold jq_pt
        show jm_I (jm_pI (jm_pI (jm_pI (jm_pI (jm_pI H q 0 _) q 1 _) q 2 _) q 3 _) q 4 _) q 0 = _ ∧ _
        simp only [G, jm_I_pI, true_and, Nat.reduceEqDiff, if_true, if_false, and_false]
      have tG : jm_tg G r = 3 := ht
      have rG : jm_R G r 0 = q := hr
      have tqG : jm_tg G q = 5 := htq
      obtain ⟨H1, i1, f1, q1⟩ := c48' (S := S) (H := G) (s := if jg_bare N A = A then 1 else -1) (m := jq_om N W (jg_bare N A)) (p := jq_op N W (jg_bare N A)) tG (by omega) (fun h => by omega)
      refine ⟨H1, ?_, fun _ _ => ?_, jf_fr_trans (jf_fr_mono fG (fun x hx => Or.inr hx)) (jf_fr_mono f1 (fun x hx => Or.inl hx)), fun Q => ?_⟩
      · unfold jg_val
        rw [if_neg h0, if_neg hn]
        exact i1
      · have e := (f1.2.2.2.2 q hne).1
        unfold jq_pt at *
        rw [e]
        exact pG
      · have efull : ((1 : Int64) <<< (Int32.toInt64 (nI (jf_fb N W (jg_bare N A))) &&& 63)) + Int32.toInt64 (nI (jf_frac N W (jg_bare N A))) = lN (jf_mant N W (jg_bare N A)) := by
          rw [lN_p2 (by omega), nI_l (by omega), lN_add]
          rfl
        have esc : (jI (jf_reg N (jg_bare N A)) <<< (nI W &&& 31)) + nI (jf_exp N W (jg_bare N A)) = jI (jf_reg N (jg_bare N A) * (2 ^ W : Nat) + jf_exp N W (jg_bare N A)) := by
          rw [jI_n W, jI_shl _ (by omega), jI_n, jI_add]
        have epw : jI (jf_reg N (jg_bare N A) * (2 ^ W : Nat) + jf_exp N W (jg_bare N A)) - nI (jf_fb N W (jg_bare N A)) + nI (jf_tz 12 (jf_mant N W (jg_bare N A))) = jI (jq_op N W (jg_bare N A)) := by
          rw [jI_n, jI_sub, jI_n, jI_add]
          rfl
        have esh : lN (jf_mant N W (jg_bare N A)) >>> (Int32.toInt64 (nI (jf_tz 12 (jf_mant N W (jg_bare N A)))) &&& 63) = lN (jq_om N W (jg_bare N A)) := by
          rw [lN_shr (by omega) (by omega)]
          rfl
        rw [en68, u68_0, if_pos z, u68_12, c69 (by omega) (by omega) (by omega), if_neg hn]
        simp only [Option.toList_some, List.append_nil]
        rw [u68_17, if_pos rfl, u68_25, c71g (by omega) h2 hA]
        simp only [Option.toList_some, List.append_nil]
        rw [u68_30 ht (by rw [hr]; exact hq) (by rw [hr]; exact htq), hr, c72 htq h1 h2 hw (by omega)]
        simp only [Option.toList_none, List.nil_append]
        show jm_w S 3 68 43 [.ref r, .int (nI N), .int (nI W), .int (nI A), .int (nI (jg_bare N A)), .null, .null, .null, .null] [] G Q = _
        rw [u68_43 tG (by rw [rG]; exact hq) (by rw [rG]; exact tqG), rG, pG.2.1, pG.2.2.1, pG.2.2.2.1, pG.2.2.2.2, efull, esc, lI_n, c75 hm.1 (by omega)]
        simp only [Option.toList_some, List.cons_append, List.nil_append]
        rw [u68_87]
        have e101 : ∀ s : Int, s = (if jg_bare N A = A then 1 else -1) → jm_w S 3 68 101 [.ref r, .int (nI N), .int (nI W), .int (nI A), .int (nI (jg_bare N A)), .int (jI (jf_reg N (jg_bare N A) * (2 ^ W : Nat) + jf_exp N W (jg_bare N A))), .long (lI (jf_mant N W (jg_bare N A))), .null, .int (nI (jf_tz 12 (jf_mant N W (jg_bare N A))))] [.int (jI s), .ref r] G Q = Q none H1 := by
          rintro s rfl
          rw [u68_101 tG (by rw [rG]; exact hq) (by rw [rG]; exact tqG) tG, rG, pG.2.2.2.1, epw, ← lI_n, esh, q1]
          simp only [Option.toList_none, List.nil_append]
          rw [u68_122]
        by_cases hb : jg_bare N A = A
        · rw [if_neg (by rw [nI_eqI (by omega) (by omega)]; exact fun g => g hb), u68_96]
          exact e101 1 (by rw [if_pos hb])
        · rw [if_pos (by rw [nI_eqI (by omega) (by omega)]; exact hb), u68_100]
          exact e101 (-1) (by rw [if_neg hb])
end STALE
section STALEW
variable {S : Option (Nat × (Nat → Int32))} {H : jm_H} {N W : Nat}
theorem c87g {N W A B : Nat} (st : jm_st H) (h1 : 3 ≤ N) (h2 : N ≤ 12) (hw : W ≤ 2) (hA : A < 4096) (hB : B < 4096) (what : Nat) (h4 : what < 4) : ∃ H1, jm_I H1 11 3 = jI (jq_rnd N W (jq_op2 what (jg_val N W A) (jg_val N W B))).2 ∧ jf_fr jq_RR H H1 ∧ ∀ Q, jm_c S 87 [.ref 11, .int (nI N), .int (nI W), .int (nI A), .int (nI B), .int (nI what)] H Q = Q (some (.int (nI (jq_rnd N W (jq_op2 what (jg_val N W A) (jg_val N W B))).1))) H1 := by
  have t11 := st_t11 st
  have r0 := st_r11_0 st
  have r1 := st_r11_1 st
  obtain ⟨H1, i1, _, f1, q1⟩ := c68g (S := S) (H := H) (st_t12 st) (st_r12_0 st) (by decide) (by decide) (st_t13 st) h1 h2 hw hA
  have st1 := jf_fr_st f1 st
  obtain ⟨H2, i2, _, f2, q2⟩ := c68g (S := S) (H := H1) (st_t14 st1) (st_r14_0 st1) (by decide) (by decide) (st_t15 st1) h1 h2 hw hB
  have st2 := jf_fr_st f2 st1
  have i1' : jq_is H2 12 (jg_val N W A) := jq_is_fr f2 (by decide) i1
  have bA := jg_val_b (A := A) h1 h2 hw
  have bB := jg_val_b (A := B) h1 h2 hw
  have f12 : jf_fr jq_RR H H2 := jf_fr_trans (jf_fr_mono f1 (fun x hx => by rcases hx with rfl | rfl <;> decide)) (jf_fr_mono f2 (fun x hx => by rcases hx with rfl | rfl <;> decide))
  have go : ∀ Q, jm_c S 87 [.ref 11, .int (nI N), .int (nI W), .int (nI A), .int (nI B), .int (nI what)] H Q = jm_w S 6 87 23 [.ref 11, .int (nI N), .int (nI W), .int (nI A), .int (nI B), .int (nI what)] [.int (nI what)] H2 Q := by
    intro Q
    rw [en87, u87_0 t11 (by rw [r0]; decide) (by rw [r0]; exact st_t12 st), r0, q1]
    simp only [Option.toList_none, List.nil_append]
    rw [u87_10 (st_t11 st1) (by rw [st_r11_1 st1]; decide) (by rw [st_r11_1 st1]; exact st_t14 st1), st_r11_1 st1, q2]
    simp only [Option.toList_none, List.nil_append]
    rw [u87_21]
  -- behind the op: rounded
  have fin : ∀ (v : Option (Int × Nat × Int)) (G : jm_H), jq_is G 16 v → jq_ok v → jf_fr jq_RR H G → ∃ H1, jm_I H1 11 3 = jI (jq_rnd N W v).2 ∧ jf_fr jq_RR H H1 ∧ ∀ Q, jm_w S 6 87 88 [.ref 11, .int (nI N), .int (nI W), .int (nI A), .int (nI B), .int (nI what)] [] G Q = Q (some (.int (nI (jq_rnd N W v).1))) H1 := by
    intro v G iG oG fG
    have stG := jf_fr_st fG st
    obtain ⟨G1, l1, g1, p1⟩ := c49 (S := S) stG (st_t16 stG) iG oG h1 h2 hw
    refine ⟨G1, l1, jf_fr_trans fG (jf_fr_mono g1 (fun x hx => by rcases hx with rfl | rfl <;> decide)), fun Q => ?_⟩
    rw [u87_88 (st_t11 stG) (by rw [st_r11_2 stG]; decide), st_r11_2 stG, p1]
    simp only [Option.toList_some, List.append_nil]
    rw [u87_98]
  match what, h4 with
  | 0, _ =>
    obtain ⟨G, iG, fG, qG⟩ := c88 (S := S) st2 i1' i2 (jq_b_mono bA (by decide) (by decide) (by decide)) (jq_b_mono bB (by decide) (by decide) (by decide))
    obtain ⟨G1, l1, g1, p1⟩ := fin _ G iG (jq_add_ok (jq_b_mono bA (by decide) (by decide) (by decide)) (jq_b_mono bB (by decide) (by decide) (by decide))) (jf_fr_trans f12 (jf_fr_mono fG (fun x hx => by rcases hx with rfl; decide)))
    refine ⟨G1, l1, g1, fun Q => ?_⟩
    rw [go]
    show jm_w S 6 87 23 _ [.int 0] H2 Q = _
    rw [u87_23_0, u87_48 (st_t11 st2), qG]
    simp only [Option.toList_none, List.nil_append]
    rw [u87_52]
    exact p1 Q
  | 1, _ =>
    have i2' : jq_is (jm_pI H2 14 2 (-(jm_I H2 14 2))) 14 (jq_ng (jg_val N W B)) := by
      revert i2
      cases jg_val N W B with
      | none =>
        intro i2
        have h : jm_I H2 14 1 = 1 := i2
        show jm_I (jm_pI H2 14 2 _) 14 1 = 1
        rw [jm_I_pI, if_neg (by omega)]
        exact h
      | some b =>
        intro i2
        obtain ⟨b1, b2, b3, b4⟩ := i2
        unfold jq_ng jq_is
        simp only [jm_I_pI, jm_L_pI, true_and, Nat.reduceEqDiff, if_true, if_false, and_false]
        exact ⟨b1, by rw [b2, jI_neg], b3, b4⟩
    have fn : jf_fr jq_RR H2 (jm_pI H2 14 2 (-(jm_I H2 14 2))) := jf_fr_pI (by decide)
    have st3 := jf_fr_st fn st2
    have i1'' : jq_is (jm_pI H2 14 2 (-(jm_I H2 14 2))) 12 (jg_val N W A) := jq_is_fr (P := fun q => q = 14) (jf_fr_pI rfl) (by decide) i1'
    obtain ⟨G, iG, fG, qG⟩ := c88 (S := S) st3 i1'' i2' (jq_b_mono bA (by decide) (by decide) (by decide)) (jq_ng_b (jq_b_mono bB (by decide) (by decide) (by decide)))
    obtain ⟨G1, l1, g1, p1⟩ := fin _ G iG (jq_add_ok (jq_b_mono bA (by decide) (by decide) (by decide)) (jq_ng_b (jq_b_mono bB (by decide) (by decide) (by decide)))) (jf_fr_trans (jf_fr_trans f12 fn) (jf_fr_mono fG (fun x hx => by rcases hx with rfl; decide)))
    refine ⟨G1, l1, g1, fun Q => ?_⟩
    rw [go]
    show jm_w S 6 87 23 _ [.int 1] H2 Q = _
    rw [u87_23_1, u87_55 (st_t11 st2) (by rw [st_r11_1 st2]; decide) (by rw [st_r11_1 st2]; exact st_t14 st2), st_r11_1 st2, qG]
    simp only [Option.toList_none, List.nil_append]
    rw [u87_74]
    exact p1 Q
  | 2, _ =>
    obtain ⟨G, iG, fG, qG⟩ := c89 (S := S) st2 i1' i2 (jq_b_mono bA (by decide) (by decide) (by decide)) (jq_b_mono bB (by decide) (by decide) (by decide))
    obtain ⟨G1, l1, g1, p1⟩ := fin _ G iG (jq_b_ok (jq_mul_b bA bB) (by decide) (by decide) (by decide)) (jf_fr_trans f12 (jf_fr_mono fG (fun x hx => by rcases hx with rfl; decide)))
    refine ⟨G1, l1, g1, fun Q => ?_⟩
    rw [go]
    show jm_w S 6 87 23 _ [.int 2] H2 Q = _
    rw [u87_23_2, u87_77 (st_t11 st2), qG]
    simp only [Option.toList_none, List.nil_append]
    rw [u87_81]
    exact p1 Q
  | 3, _ =>
    obtain ⟨G, iG, fG, qG⟩ := c90 (S := S) st2 i1' i2 (jq_b_mono bA (by decide) (by decide) (by decide)) (jq_b_mono bB (by decide) (by decide) (by decide))
    obtain ⟨G1, l1, g1, p1⟩ := fin _ G iG (jq_div_ok (jq_b_mono bA (by decide) (by decide) (by decide)) (jq_b_mono bB (by decide) (by decide) (by decide))) (jf_fr_trans f12 (jf_fr_mono fG (fun x hx => by rcases hx with rfl; decide)))
    refine ⟨G1, l1, g1, fun Q => ?_⟩
    rw [go, u87_23_d (Or.inr (by decide)), u87_84 (st_t11 st2), qG]
    simp only [Option.toList_none, List.nil_append]
    exact p1 Q
theorem c67g {A : Nat} {H : jm_H} (st : jm_st H) (h1 : 3 ≤ N) (h2 : N ≤ 12) (hw : W ≤ 2) (hA : A < 4096) : ∃ H1, jf_fr jq_RR H H1 ∧ ∀ Q, jm_c S 67 [.ref 11, .int (nI N), .int (nI W), .int (nI A)] H Q = Q (some (.int (nI (jq_rnd N W (jq_rt (jg_val N W A))).1))) H1 := by
  have r0 := st_r11_0 st
  obtain ⟨H1, i1, _, f1, q1⟩ := c68g (S := S) (H := H) (st_t12 st) (st_r12_0 st) (by decide) (by decide) (st_t13 st) h1 h2 hw hA
  have st1 := jf_fr_st f1 st
  have bA := jg_val_b (A := A) h1 h2 hw
  obtain ⟨H2, i2, f2, q2⟩ := c77 (S := S) st1 i1 (jq_b_mono bA (by decide) (by decide) (by decide))
  have st2 := jf_fr_st f2 st1
  have f12 : jf_fr jq_RR H H2 := jf_fr_trans (jf_fr_mono f1 (fun x hx => by rcases hx with rfl | rfl <;> decide)) (jf_fr_mono f2 (fun x hx => by rcases hx with rfl; decide))
  obtain ⟨H3, _, f3, q3⟩ := f49 (S := S) (N := N) (W := W) st i2 (jq_rt_ok (jq_b_mono bA (by decide) (by decide) (by decide))) f12 h1 h2 hw
  refine ⟨H3, f3, fun Q => ?_⟩
  rw [en67, u67_0 (st_t11 st) (by rw [r0]; decide) (by rw [r0]; exact st_t12 st), r0, q1]
  simp only [Option.toList_none, List.nil_append]
  rw [u67_10 (st_t11 st1), q2]
  simp only [Option.toList_none, List.nil_append]
  rw [u67_14 (st_t11 st2) (by rw [st_r11_2 st2]; decide), st_r11_2 st2, q3]
  simp only [Option.toList_some, List.append_nil]
  rw [u67_24]
end STALEW
