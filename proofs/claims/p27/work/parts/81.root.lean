set_option maxRecDepth 20000
/-! roots; rows turned to another size -/
section ROOT
variable {S : Option (Nat × (Nat → Int32))} {N W : Nat}
/-- behind the operation: rounded out of the object of the outcome -/
theorem f49 {v : Option (Int × Nat × Int)} {H G : jm_H} (st : jm_st H) (iG : jq_is G 16 v) (oG : jq_ok v) (fG : jf_fr jq_RR H G) (h1 : 3 ≤ N) (h2 : N ≤ 12) (hw : W ≤ 2) : ∃ H1, jm_I H1 11 3 = jI (jq_rnd N W v).2 ∧ jf_fr jq_RR H H1 ∧ ∀ Q, jm_c S 49 [.ref 11, .int (nI N), .int (nI W), .ref 16] G Q = Q (some (.int (nI (jq_rnd N W v).1))) H1 := by
  have stG := jf_fr_st fG st
  obtain ⟨G1, l1, g1, p1⟩ := c49 (S := S) stG (st_t16 stG) iG oG h1 h2 hw
  exact ⟨G1, l1, jf_fr_trans fG (jf_fr_mono g1 (fun x hx => by rcases hx with rfl | rfl <;> decide)), p1⟩
theorem c67 {A : Nat} {H : jm_H} (st : jm_st H) (h1 : 3 ≤ N) (h2 : N ≤ 12) (hw : W ≤ 2) (hA : A < 2 ^ N) : ∃ H1, jf_fr jq_RR H H1 ∧ ∀ Q, jm_c S 67 [.ref 11, .int (nI N), .int (nI W), .int (nI A)] H Q = Q (some (.int (nI (jq_rnd N W (jq_rt (jq_val N W A))).1))) H1 := by
  have r0 := st_r11_0 st
  obtain ⟨H1, i1, _, f1, q1⟩ := c68 (S := S) (H := H) (st_t12 st) (st_r12_0 st) (by decide) (by decide) (st_t13 st) h1 h2 hw hA
  have st1 := jf_fr_st f1 st
  have bA := jq_val_b h1 h2 hw hA
  obtain ⟨H2, i2, f2, q2⟩ := c77 (S := S) st1 i1 (jq_b_mono bA (by decide) (by decide) (by decide))
  have st2 := jf_fr_st f2 st1
  have f12 : jf_fr jq_RR H H2 := jf_fr_trans (jf_fr_mono f1 (fun x hx => by rcases hx with rfl | rfl <;> decide)) (jf_fr_mono f2 (fun x hx => by rcases hx with rfl; decide))
  obtain ⟨H3, _, f3, q3⟩ := f49 (S := S) (N := N) (W := W) st i2 (jq_rt_ok (jq_b_mono bA (by decide) (by decide) (by decide))) f12 h1 h2 hw
  refine ⟨H3, f3, fun Q => ?_⟩
  rw [en67, u67_0 (st_t11 st) (by rw [r0]; decide) (by rw [r0]; exact st_t12 st), r0, q1]
  simp only [Option.toList_none, List.nil_append]
  rw [u67_10 (st_t11 st1), q2]
  simp only [Option.toList_none, List.nil_append]
  rw [u67_14 (st_t11 st2) (by rw [st_r11_2 st2]; decide), st_r11_2 st2, q3]
  simp only [Option.toList_some, List.append_nil]
  rw [u67_24]
theorem c201 {A : Nat} {H : jm_H} (st : jm_st H) (h1 : 3 ≤ N) (h2 : N ≤ 12) (hw : W ≤ 2) (hA : A < 2 ^ N) : ∃ H1, jq_fm H H1 ∧ ∀ Q, jm_c S 201 [.ref 180, .int (nI N), .int (nI W), .int (nI A)] H Q = Q (some (.int (nI (jq_rnd N W (jq_rt (jq_val N W A))).1))) H1 := by
  have hp := p2_12 h2
  have hh := p2_half (show 1 ≤ N by omega)
  have f0 : jq_fm H (jm_pI H 180 58 0) := jq_fm_I (by decide)
  have st0 := jq_fm_st f0 st
  have z0 : (nI A = (0 : Int32)) = (A = 0) := propext (nI_eqI (b := 0) (by omega) (by decide))
  by_cases h0 : A = 0
  · refine ⟨jm_pI H 180 58 0, f0, fun Q => ?_⟩
    have e : jq_val N W A = some (0, 0, 0) := if_pos h0
    rw [en201, u201_0 (st_t180 st), ite_eqP (congrArg Not z0), if_neg (fun g => g h0), u201_9, e]
    rfl
  · have zl : (nI A < nI (2 ^ (N - 1))) = (A < 2 ^ (N - 1)) := propext (nI_ltI (by omega) (by omega))
    by_cases hlt : A < 2 ^ (N - 1)
    · have hb := jf_bare_id hlt
      obtain ⟨m1, m2, p1, p2⟩ := jq_row_b h1 (by omega) hw (show 0 < A by omega) hlt
      obtain ⟨o1, o2, o3, o4, o5, o6⟩ := jq_om_pos h1 h2 hw (show 0 < A by omega) hlt
      have hN11 : 2 ^ (N - 1) ≤ 2 ^ 11 := p2_le (by omega)
      have fo := jq_fm_open (H := jm_pI H 180 58 0) N W A
      have sto := jq_fm_st fo st0
      have ev : jq_val N W A = some (1, jq_om N W A, jq_op N W A) := by
        unfold jq_val
        rw [if_neg h0, if_neg (by omega), if_pos hlt, hb]
      have er : jq_rt (jq_val N W A) = some (1, jq_sr (jq_om N W A * 2 ^ (40 + (jq_op N W A % 2).toNat)), (jq_op N W A - (40 + jq_op N W A % 2)) / 2) := by
        rw [ev]
        rfl
      have hok := jq_rt_ok (x := jq_val N W A) (jq_b_mono (jq_val_b h1 h2 hw hA) (by decide) (by decide) (by decide))
      rw [er] at hok
      obtain ⟨k1, k2, k3, k4, k5, k6⟩ := hok
      have k7 := k6 (show (1 : Int) ≠ 0 by decide)
      dsimp only at k3 k4 k5 k7
      have hsq : jq_om N W A * 2 ^ (40 + (jq_op N W A % 2).toNat) < 4611686018427387904 := by
        have g1 : 2 ^ (40 + (jq_op N W A % 2).toNat) ≤ 2 ^ 41 := p2_le (by omega)
        have := Nat.mul_le_mul (show jq_om N W A ≤ 4096 by omega) g1
        omega
      have hsq2 : 67108864 ≤ jq_om N W A * 2 ^ (40 + (jq_op N W A % 2).toNat) := by
        have g1 : 2 ^ 40 ≤ 2 ^ (40 + (jq_op N W A % 2).toNat) := p2_le (by omega)
        have := Nat.mul_le_mul (show 1 ≤ jq_om N W A by omega) g1
        omega
      let G : jm_H := jm_pI (jm_pL (jm_pI (jf_open 180 N W A (jm_pI H 180 58 0)) 180 53 2) 180 54 (lN (jf_mant N W A))) 180 55 (jI (jf_pow N W A))
      have fG : jq_fm (jf_open 180 N W A (jm_pI H 180 58 0)) G := jq_fm_trans (jq_fm_trans (jq_fm_I (by decide)) jq_fm_L) (jq_fm_I (by decide))
      have stG := jq_fm_st fG sto
      have iG : jq_IR G (jf_mant N W A) (jf_pow N W A) G := by
        refine ⟨stG, jq_fm_refl G, ?_, ?_, ?_⟩ <;> simp only [G, jm_I_pI, jm_I_pL, jm_L_pI, jm_L_pL, true_and, Nat.reduceEqDiff, if_true, if_false, and_false]
      obtain ⟨H1, i1, _, q1⟩ := c190r (S := S) h1 h2 hw (fun H h => h.1) (fun H v h => ⟨jq_fm_st (jq_fm_I (by decide)) h.1, jq_fm_trans h.2.1 (jq_fm_I (by decide)), by rw [jm_I_pI, if_neg (by omega)]; exact h.2.2.1, h.2.2.2.1, by rw [jm_I_pI, if_neg (by omega)]; exact h.2.2.2.2⟩) (a192R h1 h2 hw m1 (by omega) (by omega)) (jq_rep_sq (m := jq_sr (jq_om N W A * 2 ^ (40 + (jq_op N W A % 2).toNat))) (p := (jq_op N W A - (40 + jq_op N W A % 2)) / 2) h1 h2 hw (jq_sr_pos (by omega) hsq).1 k3 (by omega) k7 (fun n R hn hR hR2 => by
        obtain ⟨n1, n2, v1, v2⟩ := jq_row_b (n := n) (W := W) (by omega) (by omega) hw hR hR2
        rw [jq_rtv hsq hsq2 (by omega) (by omega) (by omega), jq_v_sh _ _ (by omega), show 2 * ((jq_op N W A - (40 + jq_op N W A % 2)) / 2) + ((40 + (jq_op N W A % 2).toNat : Nat) : Int) = jq_op N W A by omega, jq_om_v h1 h2 hw (by omega) hlt])) iG
      refine ⟨H1, jq_fm_trans f0 (jq_fm_trans fo (jq_fm_trans fG i1.2.1)), fun Q => ?_⟩
      rw [en201, u201_0 (st_t180 st), ite_eqP (congrArg Not z0), if_pos h0, u201_11, c191 (by omega) (by omega)]
      simp only [Option.toList_some, List.cons_append, List.nil_append]
      rw [u201_16, ite_eqP zl, if_pos hlt, u201_24 (st_t180 st0), c193 (st_t180 st0) h1 (by omega) hw hA, hb]
      simp only [Option.toList_none, List.nil_append]
      have em : jm_I (jm_pI (jf_open 180 N W A (jm_pI H 180 58 0)) 180 53 (2 : Int32)) 180 48 = nI (jf_mant N W A) := by
        rw [jm_I_pI, if_neg (by omega), jf_open_m]
      have ep : ∀ v : Int64, jm_I (jm_pL (jm_pI (jf_open 180 N W A (jm_pI H 180 58 0)) 180 53 (2 : Int32)) 180 54 v) 180 49 = jI (jf_pow N W A) := fun v => by
        rw [jm_I_pL, jm_I_pI, if_neg (by omega), jf_open_p]
      rw [u201_31 (st_t180 sto), ep, em, nI_l (by omega)]
      show jm_c S 190 [.ref 180, .int (nI N), .int (nI W)] G _ = _
      rw [q1]
      simp only [Option.toList_some, List.append_nil]
      rw [u201_59, er]
      rfl
    · have er : jq_rt (jq_val N W A) = none := by
        unfold jq_val
        rw [if_neg h0]
        by_cases hn : A = 2 ^ (N - 1)
        · rw [if_pos hn]; rfl
        · rw [if_neg hn, if_neg hlt]; rfl
      refine ⟨jm_pI H 180 58 0, f0, fun Q => ?_⟩
      rw [en201, u201_0 (st_t180 st), ite_eqP (congrArg Not z0), if_pos h0, u201_11, c191 (by omega) (by omega)]
      simp only [Option.toList_some, List.cons_append, List.nil_append]
      rw [u201_16, ite_eqP zl, if_neg hlt, u201_19, c191 (by omega) (by omega)]
      simp only [Option.toList_some, List.append_nil]
      rw [u201_23, er]
      rfl
theorem C131 {A : Nat} (h1 : 3 ≤ N) (h2 : N ≤ 12) (hw : W ≤ 2) (hA : A < 2 ^ N) : jq_C 131 [.int (nI N), .int (nI W), .int (nI A)] (.int (nI (jq_rnd N W (jq_rt (jq_val N W A))).1)) := fun H st => by
  obtain ⟨H1, f1, q1⟩ := c67 (S := none) st h1 h2 hw hA
  refine ⟨H1, jf_fr_mono f1 (fun q h => jq_RR_PC h), fun Q => ?_⟩
  rw [en131, u131_0, c99, if_pos (jr_row_nI h1 h2 hw hA)]
  simp only [Option.toList_some, List.append_nil]
  rw [u131_6, if_pos i1_0, u131_11 (st_t2 st) (by rw [st_r2_3 st]; decide) (by rw [st_r2_3 st]; exact st_t11 st), st_r2_3 st, q1]
  simp only [Option.toList_some, List.append_nil]
  rw [u131_21]
theorem M225 {A : Nat} (h1 : 3 ≤ N) (h2 : N ≤ 12) (hw : W ≤ 2) (hA : A < 2 ^ N) : jq_M 225 [.int (nI N), .int (nI W), .int (nI A)] (.int (nI (jq_rnd N W (jq_rt (jq_val N W A))).1)) := fun H st => by
  obtain ⟨H1, f1, q1⟩ := c201 (S := none) st h1 h2 hw hA
  refine ⟨H1, jq_fn_of f1, fun Q => ?_⟩
  rw [en225, u225_0, c220, if_pos (jr_row_nI h1 h2 hw hA)]
  simp only [Option.toList_some, List.append_nil]
  rw [u225_6, if_neg i1_0, u225_9 (st_t180 st), q1]
  simp only [Option.toList_some, List.append_nil]
  rw [u225_16, u225_20]
/-! turned -/
/-- as it is, its power less by t -/
def jq_sp (t : Int) (x : Option (Int × Nat × Int)) : Option (Int × Nat × Int) := match x with
  | none => none
  | some a => some (a.1, a.2.1, a.2.2 - t)
theorem jq_sp0 (x : Option (Int × Nat × Int)) : jq_sp 0 x = x := by
  cases x with
  | none => rfl
  | some a =>
    unfold jq_sp
    dsimp only
    rw [Int.sub_zero]
theorem c227 {A M U t : Nat} {H : jm_H} (st : jm_st H) (h1 : 3 ≤ N) (h2 : N ≤ 12) (hw : W ≤ 2) (hA : A < 2 ^ N) (h0 : A ≠ 0) (hn : A ≠ 2 ^ (N - 1)) (g1 : 3 ≤ M) (g2 : M ≤ 12) (gw : U ≤ 2) (ht : t ≤ 1) : ∃ H1, jq_fm H H1 ∧ ∀ Q, jm_c S 227 [.ref 180, .int (nI N), .int (nI W), .int (nI A), .int (nI M), .int (nI U), .int (nI t)] H Q = Q (some (.int (nI (jq_rnd M U (jq_sp t (jq_val N W A))).1))) H1 := by
  have hp := p2_12 h2
  obtain ⟨b1, b2⟩ := jf_bare_pos (show 1 ≤ N by omega) hA h0 hn
  obtain ⟨m1, m2, p1, p2⟩ := jq_row_b h1 (by omega) hw b1 b2
  obtain ⟨o1, o2, o3, o4, o5, o6⟩ := jq_om_pos h1 h2 hw b1 b2
  have hN11 : 2 ^ (N - 1) ≤ 2 ^ 11 := p2_le (by omega)
  have fo := jq_fm_open (H := H) N W (jf_bare N A)
  have sto := jq_fm_st fo st
  have hs := jf_sgn_1 (N := N) h0 hn
  have hits : jf_sgn N A = -1 ∨ jf_sgn N A = 1 := by
    rw [hs]
    split
    · exact Or.inr rfl
    · exact Or.inl rfl
  have ev : jq_sp t (jq_val N W A) = some (jf_sgn N A, jq_om N W (jf_bare N A), jq_op N W (jf_bare N A) - t) := by
    unfold jq_val
    rw [if_neg h0, if_neg hn, hs]
    rfl
  obtain ⟨H1, f1, _, q1⟩ := c189 (S := S) (N := M) (W := U) (m := jq_om N W (jf_bare N A)) (p := jq_op N W (jf_bare N A) - t) sto g1 g2 gw (om := jf_mant N W (jf_bare N A)) (op := jf_pow N W (jf_bare N A) - t) (um := 1) (uq := 0) m1 (by omega) (by decide) (by decide) (by omega) (by decide) hits (jq_rep_sq g1 g2 gw o1 (by omega) (by omega) (by omega) (fun n R hn hR hR2 => by
    have e := jq_om_m (N := N) (W := W) (B := jf_bare N A)
    rw [Nat.one_mul, Int.zero_add]
    congr 1
    unfold jq_op
    rw [show jf_pow N W (jf_bare N A) + (jf_tz 12 (jf_mant N W (jf_bare N A)) : Nat) - (t : Int) = jf_pow N W (jf_bare N A) - t + ((jf_tz 12 (jf_mant N W (jf_bare N A)) : Nat) : Int) by omega, ← jq_v_sh _ _ (by omega), e]))
  refine ⟨H1, jq_fm_trans fo f1, fun Q => ?_⟩
  rw [en227, u227_0, c206 (by omega) h2 hA]
  simp only [Option.toList_some, List.append_nil]
  rw [u227_5 (st_t180 st), c193 (st_t180 st) h1 (by omega) hw hA]
  simp only [Option.toList_none, List.nil_append]
  rw [u227_14 (st_t180 sto), jf_open_m, jf_open_p, nI_l (by omega), jI_n t, jI_sub]
  show jm_c S 189 [.ref 180, .int (nI M), .int (nI U), .long (lN _), .int (jI _), .long (lN 1), .int (jI 0), .int (jI _)] _ _ = _
  rw [q1]
  simp only [Option.toList_some, List.append_nil]
  rw [u227_38, ev]
theorem C132 {A M U : Nat} (h1 : 3 ≤ N) (h2 : N ≤ 12) (hw : W ≤ 2) (hA : A < 2 ^ N) (g1 : 3 ≤ M) (g2 : M ≤ 12) (gw : U ≤ 2) : jq_C 132 [.int (nI N), .int (nI W), .int (nI A), .int (nI M), .int (nI U)] (.int (nI (jq_rnd M U (jq_val N W A)).1)) := fun H st => by
  obtain ⟨H1, i1, _, f1, q1⟩ := c68 (S := none) (H := H) (st_t27 st) (st_r27_0 st) (by decide) (by decide) (st_t28 st) h1 h2 hw hA
  have st1 := jf_fr_st f1 st
  obtain ⟨H2, _, f2, q2⟩ := c49 (S := none) (N := M) (W := U) st1 (st_t27 st1) i1 (jq_b_ok (jq_val_b h1 h2 hw hA) (by decide) (by decide) (by decide)) g1 g2 gw
  refine ⟨H2, jf_fr_trans (jf_fr_mono f1 (fun q h => by rcases h with rfl | rfl <;> exact Or.inr (Or.inl (by decide)))) (jf_fr_mono f2 (fun q h => by rcases h with rfl | rfl <;> exact Or.inl (by decide))), fun Q => ?_⟩
  have hs : jr_sz (nI M) (nI U) := (jr_row_nI g1 g2 gw (p2_pos M)).1
  rw [en132, u132_0, c99, if_pos (jr_row_nI h1 h2 hw hA)]
  simp only [Option.toList_some, List.append_nil]
  rw [u132_6, if_neg i1_0, u132_9, c93, if_pos hs]
  simp only [Option.toList_some, List.append_nil]
  rw [u132_16, if_pos i1_0, u132_21 (st_t2 st) (by rw [st_r2_5 st]; decide) (by rw [st_r2_5 st]; exact st_t27 st), st_r2_5 st, q1]
  simp only [Option.toList_none, List.nil_append]
  rw [u132_31 (st_t2 st1) (by rw [st_r2_3 st1]; decide) (by rw [st_r2_5 st1]; decide) (by rw [st_r2_3 st1]; exact st_t11 st1), st_r2_3 st1, st_r2_5 st1, q2]
  simp only [Option.toList_some, List.append_nil]
  rw [u132_46]
theorem M226 {A M U : Nat} (h1 : 3 ≤ N) (h2 : N ≤ 12) (hw : W ≤ 2) (hA : A < 2 ^ N) (g1 : 3 ≤ M) (g2 : M ≤ 12) (gw : U ≤ 2) : jq_M 226 [.int (nI N), .int (nI W), .int (nI A), .int (nI M), .int (nI U)] (.int (nI (jq_rnd M U (jq_val N W A)).1)) := fun H st => by
  have hp := p2_12 h2
  have hs : jr_sz (nI M) (nI U) := (jr_row_nI g1 g2 gw (p2_pos M)).1
  have z0 : (nI A = (0 : Int32)) = (A = 0) := propext (nI_eqI (b := 0) (by omega) (by decide))
  have start : ∀ Q, jm_c none 226 [.ref 180, .int (nI N), .int (nI W), .int (nI A), .int (nI M), .int (nI U)] H Q = jm_w none 7 226 26 [.ref 180, .int (nI N), .int (nI W), .int (nI A), .int (nI M), .int (nI U)] [.int (if A = 2 ^ (N - 1) then 1 else 0)] H Q := by
    intro Q
    rw [en226, u226_0, c220, if_pos (jr_row_nI h1 h2 hw hA)]
    simp only [Option.toList_some, List.append_nil]
    rw [u226_6, if_neg i1_0, u226_9, c217, if_pos hs]
    simp only [Option.toList_some, List.append_nil]
    rw [u226_16, if_pos i1_0, u226_21, c204 (by omega) (by omega) (by omega)]
    simp only [Option.toList_some, List.append_nil]
  by_cases hn : A = 2 ^ (N - 1)
  · refine ⟨H, jq_fn_refl H, fun Q => ?_⟩
    have e : jq_val N W A = none := by
      unfold jq_val
      rw [if_neg (by have := p2_pos (N - 1); omega), if_pos hn]
    rw [start, if_pos hn, u226_26, if_neg i1_0, u226_29, c191 (by omega) (by omega)]
    simp only [Option.toList_some, List.append_nil]
    rw [u226_34, e]
    rfl
  · by_cases h0 : A = 0
    · refine ⟨H, jq_fn_refl H, fun Q => ?_⟩
      have e : jq_val N W A = some (0, 0, 0) := if_pos h0
      rw [start, if_neg hn, u226_26, if_pos rfl, u226_35, ite_eqP (congrArg Not z0), if_neg (fun g => g h0), u226_39, u226_55, e]
      rfl
    · obtain ⟨H1, f1, q1⟩ := c227 (S := none) (t := 0) st h1 h2 hw hA h0 hn g1 g2 gw (by decide)
      refine ⟨H1, jq_fn_of f1, fun Q => ?_⟩
      have q1' : ∀ Q, jm_c none 227 [.ref 180, .int (nI N), .int (nI W), .int (nI A), .int (nI M), .int (nI U), .int 0] H Q = Q (some (.int (nI (jq_rnd M U (jq_val N W A)).1))) H1 := fun Q => by
        have e : jq_sp ((0 : Nat) : Int) (jq_val N W A) = jq_val N W A := jq_sp0 _
        rw [← e]
        exact q1 Q
      rw [start, if_neg hn, u226_26, if_pos rfl, u226_35, ite_eqP (congrArg Not z0), if_pos h0, u226_43 (st_t180 st), q1']
      simp only [Option.toList_some, List.append_nil]
      rw [u226_55]
end ROOT
