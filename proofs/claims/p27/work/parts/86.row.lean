set_option maxRecDepth 20000
/-! one row: its parts, its neighbours, the whole number nearest to it -/
def jq_wC (m : Nat) (p : Int) : Nat := if 30 < (Nat.log2 m : Int) + p then 2000000000 else if (Nat.log2 m : Int) + p < -1 then 0 else min (if jq_mv m (p + 2) % 4 = 3 ∨ (jq_mv m (p + 2) % 4 = 2 ∧ jq_mv m (p + 2) / 4 % 2 = 1) then jq_mv m (p + 2) / 4 + 1 else jq_mv m (p + 2) / 4) 2000000000
def jq_wM (m : Nat) (p : Int) : Nat := min (if p < 0 then (if 2 ^ (-p).toNat < 2 * (m % 2 ^ (-p).toNat) ∨ (2 * (m % 2 ^ (-p).toNat) = 2 ^ (-p).toNat ∧ m / 2 ^ (-p).toNat % 2 = 1) then m / 2 ^ (-p).toNat + 1 else m / 2 ^ (-p).toNat) else m * 2 ^ p.toNat) 2000000000
def jq_wck (n w i : Nat) : Bool := decide (jq_wC (jq_om n w (i + 1)) (jq_op n w (i + 1)) = jq_wM (jf_mant n w (i + 1)) (jf_pow n w (i + 1)))
def jq_wcs (n w : Nat) : Bool := jq_all (jq_wck n w) (2 ^ (n - 1) - 1)
theorem jq_w_3 : jq_all (jq_wcs 3) 3 = true := by decide +kernel
theorem jq_w_4 : jq_all (jq_wcs 4) 3 = true := by decide +kernel
theorem jq_w_5 : jq_all (jq_wcs 5) 3 = true := by decide +kernel
theorem jq_w_6 : jq_all (jq_wcs 6) 3 = true := by decide +kernel
theorem jq_w_7 : jq_all (jq_wcs 7) 3 = true := by decide +kernel
theorem jq_w_8 : jq_all (jq_wcs 8) 3 = true := by decide +kernel
theorem jq_w_9 : jq_all (jq_wcs 9) 3 = true := by decide +kernel
theorem jq_w_10 : jq_all (jq_wcs 10) 3 = true := by decide +kernel
theorem jq_w_11 : jq_all (jq_wcs 11) 3 = true := by decide +kernel
theorem jq_w_12 : jq_all (jq_wcs 12) 3 = true := by decide +kernel
theorem jq_w_all {n w A : Nat} (h1 : 3 ≤ n) (h2 : n ≤ 12) (hw : w ≤ 2) (hA : 0 < A) (hA2 : A < 2 ^ (n - 1)) : jq_wC (jq_om n w A) (jq_op n w A) = jq_wM (jf_mant n w A) (jf_pow n w A) := by
  have h : jq_wcs n w = true := by
    match n, h1, h2 with
    | 3, _, _ => exact jq_all_at jq_w_3 w (by omega)
    | 4, _, _ => exact jq_all_at jq_w_4 w (by omega)
    | 5, _, _ => exact jq_all_at jq_w_5 w (by omega)
    | 6, _, _ => exact jq_all_at jq_w_6 w (by omega)
    | 7, _, _ => exact jq_all_at jq_w_7 w (by omega)
    | 8, _, _ => exact jq_all_at jq_w_8 w (by omega)
    | 9, _, _ => exact jq_all_at jq_w_9 w (by omega)
    | 10, _, _ => exact jq_all_at jq_w_10 w (by omega)
    | 11, _, _ => exact jq_all_at jq_w_11 w (by omega)
    | 12, _, _ => exact jq_all_at jq_w_12 w (by omega)
  have h3 := jq_all_at h (A - 1) (by omega)
  have h4 := of_decide_eq_true h3
  rw [Nat.sub_add_cancel hA] at h4
  exact h4
/-- the whole number of a number of the class -/
def jq_wx (x : Option (Int × Nat × Int)) : Int := match x with
  | none => 0
  | some a => if a.1 = 0 then 0 else a.1 * (jq_wC a.2.1 a.2.2 : Nat)
section ROW
variable {N W : Nat}
theorem c109 {r : Nat} {x : Option (Int × Nat × Int)} {H : jm_H} (ht : jm_tg H r = 3) (hi : jq_is H r x) (hb : jq_b 22 89 112 x) : ∀ Q, jm_c none 109 [.ref r] H Q = Q (some (.int (jI (jq_wx x)))) H := by
  intro Q
  cases x with
  | none =>
    have h : jm_I H r 1 = 1 := hi
    rw [en109, u109_0 ht, h, if_pos i1_0, u109_14]
    rfl
  | some a =>
    obtain ⟨s, m, p⟩ := a
    obtain ⟨i1, i2, i3, i4⟩ := hi
    obtain ⟨b1, b2, b3, b4, b5⟩ := hb
    dsimp only at i2 i3 i4 b1 b2 b3 b4 b5
    have zs : (jI s = (0 : Int32)) = (s = 0) := propext (jI_eq (b := 0) ⟨by omega, by omega⟩ (by decide))
    by_cases h0 : s = 0
    · have e : jq_wx (some (s, m, p)) = 0 := by
        unfold jq_wx
        dsimp only
        rw [if_pos h0]
      rw [en109, u109_0 ht, i1, if_neg (by decide), u109_7 ht, i2, if_neg (by rw [zs]; exact fun g => g h0), u109_14, e]
      rfl
    · have hm0 : 0 < m := by
        rcases Nat.eq_zero_or_pos m with h | h
        · exact absurd (b2.mpr h) h0
        · exact h
      have hsc := b5 h0
      have hl := lg_le hm0 b3
      have e : jq_wx (some (s, m, p)) = s * (jq_wC m p : Nat) := by
        unfold jq_wx
        dsimp only
        rw [if_neg h0]
      have z30 : ((30 : Int32)) = jI 30 := by decide
      rw [en109, u109_0 ht, i1, if_neg (by decide), u109_7 ht, i2, if_pos (by rw [zs]; exact h0), u109_16 ht, c59 ht i3 i4 hm0 (by omega), e]
      simp only [Option.toList_some, List.append_nil]
      rw [u109_20, z30, if_leI ⟨by omega, by omega⟩ (by decide)]
      unfold jq_wC
      by_cases h30 : 30 < (Nat.log2 m : Int) + p
      · rw [if_neg (by omega), if_pos h30, u109_25 ht, i2, show (2000000000 : Int32) = jI 2000000000 from by decide, jI_mul]
        rfl
      · rw [if_pos (by omega), if_neg h30, u109_33 ht, c59 ht i3 i4 hm0 (by omega)]
        simp only [Option.toList_some, List.append_nil]
        rw [u109_37, jI_m1, if_leI (by decide) ⟨by omega, by omega⟩]
        by_cases hlo : (Nat.log2 m : Int) + p < -1
        · rw [if_neg (by omega), if_pos hlo, u109_41, Int.natCast_zero, Int.mul_zero]
          rfl
        · have hmv : jq_mv m (p + 2) < 2 ^ 34 := jq_mv_lt hm0 (by omega) (by decide) (by omega)
          rw [if_pos (by omega), if_neg hlo, u109_43 ht, i3, i4, show (2 : Int32) = jI 2 from by decide, jI_add, c56 (by omega) (by omega) (by omega)]
          simp only [Option.toList_some, List.append_nil]
          generalize jq_mv m (p + 2) = q at hmv ⊢
          have e3 : lN q &&& (3 : Int64) = lN (q % 4) := by
            rw [show (3 : Int64) = lN (2 ^ 2 - 1) from rfl, lN_and, Nat.and_two_pow_sub_one_eq_mod]
          have e2 : lN q >>> (Int32.toInt64 (2 : Int32) &&& 63) = lN (q / 4) := lN_shr (k := 2) (by omega) (by decide)
          have c3 : (lg_cmp (lN (q % 4)) (3 : Int64) = 0) = (q % 4 = 3) := by rw [lg_cmp_eq]; exact propext (lN_eqS (b := 3) (by omega) (by decide))
          have c2 : (lg_cmp (lN (q % 4)) (2 : Int64) = 0) = (q % 4 = 2) := by rw [lg_cmp_eq]; exact propext (lN_eqS (b := 2) (by omega) (by decide))
          have c1 : (lg_cmp (lN (q / 4) &&& (1 : Int64)) (1 : Int64) = 0) = (q / 4 % 2 = 1) := by rw [lg_cmp_eq, lN_bit0]; exact propext (lN_eqS (b := 1) (by omega) (by decide))
          have fin : ∀ (v : Nat) (w5 : Int64), v ≤ 2 ^ 33 → jm_w none 4 109 98 [.ref r, .long (lN q), .null, .long (lN v), .null, .long w5, .null] [] H Q = Q (some (.int (jI (s * (min v 2000000000 : Nat))))) H := by
            intro v w5 hv
            rw [u109_98 ht, i2, show (2000000000 : Int64) = lI 2000000000 from by decide, lI_n, c110 ⟨by omega, by omega⟩ (by decide)]
            simp only [Option.toList_some, List.cons_append, List.nil_append]
            rw [u109_109, lI_i, jI_mul, show min (v : Int) 2000000000 = ((min v 2000000000 : Nat) : Int) by omega]
          have hq4 : q / 4 ≤ 2 ^ 32 := by omega
          rw [u109_56, e3, e2, ite_eqP c3]
          by_cases d3 : q % 4 = 3
          · rw [if_pos d3, if_pos (Or.inl d3), u109_94, lN_1, fin _ _ (by omega)]
          · rw [if_neg d3, u109_77, ite_eqP (congrArg Not c2)]
            by_cases d2 : q % 4 = 2
            · rw [if_neg (fun g => g d2), u109_86, ite_eqP (congrArg Not c1)]
              by_cases d1 : q / 4 % 2 = 1
              · rw [if_neg (fun g => g d1), if_pos (Or.inr ⟨d2, d1⟩), u109_94, lN_1, fin _ _ (by omega)]
              · rw [if_pos d1, if_neg (by omega), fin _ _ (by omega)]
            · rw [if_pos d2, if_neg (by omega), fin _ _ (by omega)]
theorem c234 {A : Nat} {H : jm_H} (st : jm_st H) (h1 : 3 ≤ N) (h2 : N ≤ 12) (hw : W ≤ 2) (hA : A < 2 ^ N) (hn : A ≠ 2 ^ (N - 1)) : ∃ H1, jq_fm H H1 ∧ ∀ Q, jm_c none 234 [.ref 180, .int (nI N), .int (nI W), .int (nI A)] H Q = Q (some (.int (jI (jq_wx (jq_val N W A))))) H1 := by
  have hp := p2_12 h2
  have z0 : (nI A = (0 : Int32)) = (A = 0) := propext (nI_eqI (b := 0) (by omega) (by decide))
  by_cases h0 : A = 0
  · refine ⟨H, jq_fm_refl H, fun Q => ?_⟩
    have e : jq_val N W A = some (0, 0, 0) := if_pos h0
    rw [en234, u234_0, ite_eqP (congrArg Not z0), if_neg (fun g => g h0), u234_4, e]
    rfl
  · obtain ⟨b1, b2⟩ := jf_bare_pos (show 1 ≤ N by omega) hA h0 hn
    obtain ⟨m1, m2, p1, p2⟩ := jq_row_b h1 (by omega) hw b1 b2
    have hN11 : 2 ^ (N - 1) ≤ 2 ^ 11 := p2_le (by omega)
    have fo := jq_fm_open (H := H) N W (jf_bare N A)
    have sto := jq_fm_st fo st
    have hs := jf_sgn_1 (N := N) h0 hn
    have ev : jq_wx (jq_val N W A) = jf_sgn N A * (jq_wM (jf_mant N W (jf_bare N A)) (jf_pow N W (jf_bare N A)) : Nat) := by
      unfold jq_val
      rw [if_neg h0, if_neg hn, hs]
      unfold jq_wx
      dsimp only
      rw [← jq_w_all h1 h2 hw b1 b2]
      split <;> rfl
    refine ⟨_, fo, fun Q => ?_⟩
    rw [en234, u234_0, ite_eqP (congrArg Not z0), if_pos h0, u234_6 (st_t180 st), c193 (st_t180 st) h1 (by omega) hw hA]
    simp only [Option.toList_none, List.nil_append]
    rw [ev]
    have em : jm_I (jf_open 180 N W (jf_bare N A) H) 180 48 = nI (jf_mant N W (jf_bare N A)) := jf_open_m _ _ _
    have ep : jm_I (jf_open 180 N W (jf_bare N A) H) 180 49 = jI (jf_pow N W (jf_bare N A)) := jf_open_p _ _ _
    have t := st_t180 sto
    generalize jf_open 180 N W (jf_bare N A) H = G at *
    generalize jf_mant N W (jf_bare N A) = m at *
    generalize jf_pow N W (jf_bare N A) = p at *
    have fin : ∀ (v : Nat) (w6 w8 : Value), v < 4611686018427387904 → jm_w none 4 234 101 [.ref 180, .int (nI N), .int (nI W), .int (nI A), .long (lN v), .null, w6, .null, w8, .null] [] G Q = Q (some (.int (jI (jf_sgn N A * (min v 2000000000 : Nat))))) G := by
      intro v w6 w8 hv
      have e118 : ∀ u : Nat, u ≤ 2000000000 → jm_w none 4 234 118 [.ref 180, .int (nI N), .int (nI W), .int (nI A), .long (lN v), .null, w6, .null, w8, .null] [.long (lN u)] G Q = Q (some (.int (jI (jf_sgn N A * (u : Nat))))) G := by
        intro u hu
        have hsb : jf_sgn N A = -1 ∨ jf_sgn N A = 1 := by
          rw [hs]
          split
          · exact Or.inr rfl
          · exact Or.inl rfl
        rw [u234_118, c206 (by omega) h2 hA]
        simp only [Option.toList_some, List.append_nil]
        rw [u234_125, jI_l ⟨by omega, by omega⟩, lI_n, lI_mul, lI_i]
      have cl : (lg_cmp (lN v) (2000000000 : Int64) ≤ 0) = (v ≤ 2000000000) := by rw [lg_cmp_le]; exact propext (lN_leS (b := 2000000000) (by omega) (by decide))
      rw [u234_101, ite_eqP cl]
      by_cases h : v ≤ 2000000000
      · rw [if_pos h, u234_116, e118 v h, show min v 2000000000 = v by omega]
      · rw [if_neg h, u234_110, show (2000000000 : Int64) = lN 2000000000 from rfl, e118 _ (Nat.le_refl _), show min v 2000000000 = 2000000000 by omega]
    rw [u234_13 t, ep, jI_0, if_ltI ⟨by omega, by omega⟩ (by decide)]
    unfold jq_wM
    by_cases hpn : p < 0
    · obtain ⟨k, hk, rfl⟩ : ∃ k : Nat, (1 ≤ k ∧ k ≤ 44) ∧ p = -(k : Int) := ⟨(-p).toNat, by omega, by omega⟩
      have hkp := p2_pos k
      have hk44 : 2 ^ k ≤ 2 ^ 44 := p2_le hk.2
      have eu : (1 : Int64) <<< (Int32.toInt64 (-(jI (-(k : Int)))) &&& 63) = lN (2 ^ k) := by rw [jI_neg, Int.neg_neg, ← jI_n, lN_p2 (by omega)]
      have hun : ¬ lN (2 ^ k) = (0 : Int64) := fun h => by
        have := (lN_eqS (b := 0) (by omega) (by decide)).mp h
        omega
      have hml := Nat.mod_lt m hkp
      have hdl := Nat.div_le_self m (2 ^ k)
      have edv : lN m / lN (2 ^ k) = lN (m / 2 ^ k) := pk_lDiv (by omega) hkp (by omega)
      have erm : lN m - lN m / lN (2 ^ k) * lN (2 ^ k) = lN (m % 2 ^ k) := pk_lRem (by omega) hkp (by omega)
      have etw : (2 : Int64) * lN (m % 2 ^ k) = lN (2 * (m % 2 ^ k)) := lN_mul 2 _
      have cg : (0 < lg_cmp (lN (2 * (m % 2 ^ k))) (lN (2 ^ k))) = (2 ^ k < 2 * (m % 2 ^ k)) := by rw [lg_cmp_gt]; exact propext (lN_ltS (by omega) (by omega))
      have ce : (lg_cmp (lN (2 * (m % 2 ^ k))) (lN (2 ^ k)) = 0) = (2 * (m % 2 ^ k) = 2 ^ k) := by rw [lg_cmp_eq]; exact propext (lN_eqS (by omega) (by omega))
      have eodd : lN (m / 2 ^ k) - lN (m / 2 ^ k) / (2 : Int64) * (2 : Int64) = lN (m / 2 ^ k % 2) := by
        have := pk_lRem (a := m / 2 ^ k) (b := 2) (by omega) (by decide) (by decide)
        exact this
      have co : (lg_cmp (lN (m / 2 ^ k % 2)) (1 : Int64) = 0) = (m / 2 ^ k % 2 = 1) := by rw [lg_cmp_eq]; exact propext (lN_eqS (b := 1) (by omega) (by decide))
      rw [if_pos hpn, if_pos hpn, u234_35 t (by rw [ep, eu]; exact hun), ep, em, nI_l (by omega), eu, erm, edv, etw, ite_eqP cg, Int.neg_neg, Int.toNat_natCast]
      by_cases h1 : 2 ^ k < 2 * (m % 2 ^ k)
      · rw [if_pos h1, if_pos (Or.inl h1), u234_95, lN_1, fin _ _ _ (by omega)]
      · rw [if_neg h1, u234_76, ite_eqP (congrArg Not ce)]
        by_cases h2 : 2 * (m % 2 ^ k) = 2 ^ k
        · rw [if_neg (fun g => g h2), u234_84, eodd, ite_eqP (congrArg Not co)]
          by_cases h3 : m / 2 ^ k % 2 = 1
          · rw [if_neg (fun g => g h3), if_pos (Or.inr ⟨h2, h3⟩), u234_95, lN_1, fin _ _ _ (by omega)]
          · rw [if_pos h3, if_neg (by omega), fin _ _ _ (by omega)]
        · rw [if_pos h2, if_neg (by omega), fin _ _ _ (by omega)]
    · obtain ⟨k, hk, rfl⟩ : ∃ k : Nat, k ≤ 44 ∧ p = (k : Int) := ⟨p.toNat, by omega, by omega⟩
      have hv : m * 2 ^ k < 4611686018427387904 := by
        have hk44 : 2 ^ k ≤ 2 ^ 44 := p2_le hk
        have := Nat.mul_le_mul (Nat.le_of_lt m2) hk44
        omega
      rw [if_neg hpn, if_neg hpn, u234_20 t, em, ep, nI_l (by omega), ← jI_n, lN_shl _ (by omega), fin _ _ _ hv, Int.toNat_natCast]
/-! the parts -/
theorem jq_sg_ord {A : Nat} (h1 : 1 ≤ N) (hA : A < 2 ^ N) (hn : A ≠ 2 ^ (N - 1)) : jq_sg (jf_ord N A) = jf_sgn N A := by
  have hh := p2_half h1
  unfold jq_sg jf_ord jf_sgn
  by_cases h : A < 2 ^ (N - 1)
  · rw [if_pos h, if_neg (by omega)]
    by_cases h0 : A = 0
    · rw [if_pos (by omega), if_pos (Or.inl h0)]
    · rw [if_neg (by omega), if_neg (by omega), if_neg (by omega)]
  · rw [if_neg h, if_pos (by omega), if_neg (by omega), if_pos (by omega)]
/-- what one row is asked -/
def jq_row1 (N W A K : Nat) : Int := if K = 9 then (jf_neg N A : Nat) else if A = 2 ^ (N - 1) then -100000 else if K = 0 then jf_sgn N A else if K = 8 then jq_wx (jq_val N W A) else if K = 10 then (if A = 2 ^ (N - 1) - 1 then -2 else ((A + 1) % 2 ^ N : Nat)) else if K = 11 then (if A = 2 ^ (N - 1) + 1 then -2 else ((A : Int) - 1) % (2 ^ N : Nat)) else if A = 0 then -100000 else if K = 1 then (jf_run N (jf_bare N A) : Nat) else if K = 2 then jf_reg N (jf_bare N A) else if K = 3 then (jf_exp N W (jf_bare N A) : Nat) else if K = 4 then (jf_fb N W (jf_bare N A) : Nat) else if K = 5 then (jf_frac N W (jf_bare N A) : Nat) else if K = 6 then (jq_om N W (jf_bare N A) : Nat) else jq_op N W (jf_bare N A)
theorem jq_isz {A : Nat} (hA : A < 4096) : (nI A = (0 : Int32)) = (A = 0) := propext (nI_eqI (b := 0) (by omega) (by decide))
theorem c113 {A K : Nat} {H : jm_H} (st : jm_st H) (h1 : 3 ≤ N) (h2 : N ≤ 12) (hw : W ≤ 2) (hA : A < 2 ^ N) (h0 : A ≠ 0) (hn : A ≠ 2 ^ (N - 1)) (hK : 1 ≤ K ∧ K ≤ 7) : ∃ H1, jf_fr jq_PC H H1 ∧ ∀ Q, jm_c none 113 [.ref 2, .int (nI N), .int (nI W), .int (nI A), .int (nI K)] H Q = Q (some (.int (jI (if K = 1 then (jf_run N (jf_bare N A) : Nat) else if K = 2 then jf_reg N (jf_bare N A) else if K = 3 then (jf_exp N W (jf_bare N A) : Nat) else if K = 4 then (jf_fb N W (jf_bare N A) : Nat) else if K = 5 then (jf_frac N W (jf_bare N A) : Nat) else if K = 6 then (jq_om N W (jf_bare N A) : Nat) else jq_op N W (jf_bare N A))))) H1 := by
  obtain ⟨H1, i1, pt, f1, q1⟩ := c68 (S := none) (H := H) (st_t27 st) (st_r27_0 st) (by decide) (by decide) (st_t28 st) h1 h2 hw hA
  have st1 := jf_fr_st f1 st
  have hp := pt h0 hn
  obtain ⟨p0, p1, p2, p3, p4⟩ := hp
  have ev : jq_val N W A = some (if A < 2 ^ (N - 1) then 1 else -1, jq_om N W (jf_bare N A), jq_op N W (jf_bare N A)) := by unfold jq_val; rw [if_neg h0, if_neg hn]
  rw [ev] at i1
  obtain ⟨i11, i12, i13, i14⟩ := i1
  dsimp only at i13 i14
  have r := st_r2_5 st
  have r1 := st_r2_5 st1
  have r2 := st_r27_0 st1
  have t2 := st_t2 st1
  have t27 := st_t27 st1
  have t28 := st_t28 st1
  refine ⟨H1, jf_fr_mono f1 (fun q h => by rcases h with rfl | rfl <;> exact Or.inr (Or.inl (by decide))), fun Q => ?_⟩
  rw [en113, u113_0 (st_t2 st) (by rw [r]; decide) (by rw [r]; exact st_t27 st), r, q1]
  simp only [Option.toList_none, List.nil_append]
  rw [u113_10]
  match K, hK with
  | 1, _ =>
    show jm_w none 4 113 12 _ [.int 1] H1 Q = _
    rw [u113_12_1, u113_52 t2 (by rw [r1]; decide) (by rw [r1]; exact t27) (by rw [r1, r2]; decide) (by rw [r1, r2]; exact t28), r1, r2, p0, jI_n]
    rfl
  | 2, _ =>
    show jm_w none 4 113 12 _ [.int 2] H1 Q = _
    rw [u113_12_2, u113_63 t2 (by rw [r1]; decide) (by rw [r1]; exact t27) (by rw [r1, r2]; decide) (by rw [r1, r2]; exact t28), r1, r2, p1]
    rfl
  | 3, _ =>
    show jm_w none 4 113 12 _ [.int 3] H1 Q = _
    rw [u113_12_3, u113_74 t2 (by rw [r1]; decide) (by rw [r1]; exact t27) (by rw [r1, r2]; decide) (by rw [r1, r2]; exact t28), r1, r2, p2, jI_n]
    rfl
  | 4, _ =>
    show jm_w none 4 113 12 _ [.int 4] H1 Q = _
    rw [u113_12_4, u113_85 t2 (by rw [r1]; decide) (by rw [r1]; exact t27) (by rw [r1, r2]; decide) (by rw [r1, r2]; exact t28), r1, r2, p3, jI_n]
    rfl
  | 5, _ =>
    show jm_w none 4 113 12 _ [.int 5] H1 Q = _
    rw [u113_12_5, u113_96 t2 (by rw [r1]; decide) (by rw [r1]; exact t27) (by rw [r1, r2]; decide) (by rw [r1, r2]; exact t28), r1, r2, p4, jI_n]
    rfl
  | 6, _ =>
    show jm_w none 4 113 12 _ [.int 6] H1 Q = _
    rw [u113_12_6, u113_107 t2 (by rw [r1]; decide) (by rw [r1]; exact t27), r1, i13, lN_i, jI_n]
    rfl
  | 7, _ =>
    rw [u113_12_d (Or.inr (by decide)), u113_116 t2 (by rw [r1]; decide) (by rw [r1]; exact t27), r1, i14]
    rfl
theorem jf_open_k {H : jm_H} (B : Nat) : jm_I (jf_open 180 N W B H) 180 43 = nI (jf_run N B) ∧ jm_I (jf_open 180 N W B H) 180 44 = jI (jf_reg N B) ∧ jm_I (jf_open 180 N W B H) 180 45 = nI (jf_exp N W B) ∧ jm_I (jf_open 180 N W B H) 180 46 = nI (jf_fb N W B) ∧ jm_I (jf_open 180 N W B H) 180 47 = nI (jf_frac N W B) := by
  unfold jf_open
  refine ⟨?_, ?_, ?_, ?_, ?_⟩ <;> simp only [jm_I_pI, true_and, Nat.reduceEqDiff, if_true, if_false, and_false]
theorem M233p {A K : Nat} {H : jm_H} (st : jm_st H) (h1 : 3 ≤ N) (h2 : N ≤ 12) (hw : W ≤ 2) (hA : A < 2 ^ N) (h0 : A ≠ 0) (hn : A ≠ 2 ^ (N - 1)) (hK : 1 ≤ K ∧ K ≤ 7) : ∃ H1, jq_fm H H1 ∧ ∀ Q, jm_w none 5 233 147 [.ref 180, .int (nI N), .int (nI W), .int (nI A), .int (nI K)] [] H Q = Q (some (.int (jI (if K = 1 then (jf_run N (jf_bare N A) : Nat) else if K = 2 then jf_reg N (jf_bare N A) else if K = 3 then (jf_exp N W (jf_bare N A) : Nat) else if K = 4 then (jf_fb N W (jf_bare N A) : Nat) else if K = 5 then (jf_frac N W (jf_bare N A) : Nat) else if K = 6 then (jq_om N W (jf_bare N A) : Nat) else jq_op N W (jf_bare N A))))) H1 := by
  obtain ⟨b1, b2⟩ := jf_bare_pos (show 1 ≤ N by omega) hA h0 hn
  obtain ⟨m1, m2, p1, p2⟩ := jq_row_b h1 (by omega) hw b1 b2
  have fo := jq_fm_open (H := H) N W (jf_bare N A)
  have sto := jq_fm_st fo st
  have t := st_t180 sto
  obtain ⟨k0, k1, k2, k3, k4⟩ := jf_open_k (N := N) (W := W) (H := H) (jf_bare N A)
  have em : jm_I (jf_open 180 N W (jf_bare N A) H) 180 48 = nI (jf_mant N W (jf_bare N A)) := jf_open_m _ _ _
  have ep : jm_I (jf_open 180 N W (jf_bare N A) H) 180 49 = jI (jf_pow N W (jf_bare N A)) := jf_open_p _ _ _
  have start : ∀ Q, jm_w none 5 233 147 [.ref 180, .int (nI N), .int (nI W), .int (nI A), .int (nI K)] [] H Q = jm_w none 5 233 154 [.ref 180, .int (nI N), .int (nI W), .int (nI A), .int (nI K)] [] (jf_open 180 N W (jf_bare N A) H) Q := by
    intro Q
    rw [u233_147 (st_t180 st), c193 (st_t180 st) h1 (by omega) hw hA]
    simp only [Option.toList_none, List.nil_append]
  generalize jf_open 180 N W (jf_bare N A) H = G at *
  have f2 : jq_fm G (jm_pI (jm_pI G 180 48 (nI (jf_mant N W (jf_bare N A) / 2 ^ jf_tz 12 (jf_mant N W (jf_bare N A))))) 180 49 (jI (jf_pow N W (jf_bare N A) + (jf_tz 12 (jf_mant N W (jf_bare N A)) : Nat)))) := jq_fm_trans (jq_fm_I (by decide)) (jq_fm_I (by decide))
  have red : ∀ Q, jm_c none 235 [.ref 180] G Q = Q none (jm_pI (jm_pI G 180 48 (nI (jf_mant N W (jf_bare N A) / 2 ^ jf_tz 12 (jf_mant N W (jf_bare N A))))) 180 49 (jI (jf_pow N W (jf_bare N A) + (jf_tz 12 (jf_mant N W (jf_bare N A)) : Nat)))) := by
    intro Q
    rw [en235]
    exact s235 12 _ _ G t m1 (by omega) (by decide) em ep
  have low : K ≤ 5 → ∀ Q, jm_w none 5 233 147 [.ref 180, .int (nI N), .int (nI W), .int (nI A), .int (nI K)] [] H Q = jm_c none 236 [.ref 180, .int (nI K)] G (fun v G => jm_w none 5 233 170 [.ref 180, .int (nI N), .int (nI W), .int (nI A), .int (nI K)] (v.toList ++ []) G Q) := by
    intro hk Q
    rw [start, u233_154, if_pos (show nI K ≤ (5 : Int32) from (nI_leI (b := 5) (by omega) (by decide)).mpr hk), u233_164 t]
  have high : ¬ K ≤ 5 → ∀ Q, jm_w none 5 233 147 [.ref 180, .int (nI N), .int (nI W), .int (nI A), .int (nI K)] [] H Q = jm_c none 236 [.ref 180, .int (nI K)] (jm_pI (jm_pI G 180 48 (nI (jf_mant N W (jf_bare N A) / 2 ^ jf_tz 12 (jf_mant N W (jf_bare N A))))) 180 49 (jI (jf_pow N W (jf_bare N A) + (jf_tz 12 (jf_mant N W (jf_bare N A)) : Nat)))) (fun v G => jm_w none 5 233 170 [.ref 180, .int (nI N), .int (nI W), .int (nI A), .int (nI K)] (v.toList ++ []) G Q) := by
    intro hk Q
    rw [start, u233_154, if_neg (show ¬ nI K ≤ (5 : Int32) from fun g => hk ((nI_leI (b := 5) (by omega) (by decide)).mp g)), u233_160 t, red]
    simp only [Option.toList_none, List.nil_append]
    rw [u233_164 (tgI (tgI t))]
  match K, hK with
  | 1, _ =>
    refine ⟨G, fo, fun Q => ?_⟩
    rw [low (by decide), en236, u236_0]
    show jm_w none 1 236 1 _ [.int 1] G _ = _
    rw [u236_1_1, u236_40 t, k0, jI_n]
    simp only [Option.toList_some, List.append_nil]
    rw [u233_170]
    rfl
  | 2, _ =>
    refine ⟨G, fo, fun Q => ?_⟩
    rw [low (by decide), en236, u236_0]
    show jm_w none 1 236 1 _ [.int 2] G _ = _
    rw [u236_1_2, u236_45 t, k1]
    simp only [Option.toList_some, List.append_nil]
    rw [u233_170]
    rfl
  | 3, _ =>
    refine ⟨G, fo, fun Q => ?_⟩
    rw [low (by decide), en236, u236_0]
    show jm_w none 1 236 1 _ [.int 3] G _ = _
    rw [u236_1_3, u236_50 t, k2, jI_n]
    simp only [Option.toList_some, List.append_nil]
    rw [u233_170]
    rfl
  | 4, _ =>
    refine ⟨G, fo, fun Q => ?_⟩
    rw [low (by decide), en236, u236_0]
    show jm_w none 1 236 1 _ [.int 4] G _ = _
    rw [u236_1_4, u236_55 t, k3, jI_n]
    simp only [Option.toList_some, List.append_nil]
    rw [u233_170]
    rfl
  | 5, _ =>
    refine ⟨G, fo, fun Q => ?_⟩
    rw [low (by decide), en236, u236_0]
    show jm_w none 1 236 1 _ [.int 5] G _ = _
    rw [u236_1_5, u236_60 t, k4, jI_n]
    simp only [Option.toList_some, List.append_nil]
    rw [u233_170]
    rfl
  | 6, _ =>
    refine ⟨_, jq_fm_trans fo f2, fun Q => ?_⟩
    rw [high (by decide), en236, u236_0]
    show jm_w none 1 236 1 _ [.int 6] _ _ = _
    rw [u236_1_6, u236_65 (tgI (tgI t)), jm_I_pI, if_neg (by omega), jm_I_pI, if_pos ⟨rfl, rfl⟩, jI_n]
    simp only [Option.toList_some, List.append_nil]
    rw [u233_170]
    rfl
  | 7, _ =>
    refine ⟨_, jq_fm_trans fo f2, fun Q => ?_⟩
    rw [high (by decide), en236, u236_0, u236_1_d (Or.inr (by decide)), u236_70 (tgI (tgI t)), jm_I_pI, if_pos ⟨rfl, rfl⟩]
    simp only [Option.toList_some, List.append_nil]
    rw [u233_170]
    rfl
end ROW
