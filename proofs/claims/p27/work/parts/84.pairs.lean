set_option maxRecDepth 20000
theorem i32_6 : (6 : Int32).toInt = 6 := by decide
/-! pairs -/
theorem jq_ep0 : ∀ k, k < 36 → jm_I jm_G 176 k = -1 := by decide +kernel
theorem jq_exs_b {N W K : Nat} (h2 : N ≤ 6) : jq_exs N W K ≤ 4096 := by
  have hN : 2 ^ N ≤ 64 := p2_le (m := 6) h2
  have h1 : ∀ A, jq_su (fun B => jq_ex N W K A B) 0 (2 ^ N) ≤ 2 ^ N * 1 := fun A => jq_su_le (fun B => jq_ex_le K A B) _ _
  have h3 := jq_su_le (f := fun A => jq_su (fun B => jq_ex N W K A B) 0 (2 ^ N)) (c := 2 ^ N * 1) h1 (2 ^ N) 0
  have h4 : 2 ^ N * (2 ^ N * 1) ≤ 64 * 64 := Nat.mul_le_mul hN (by omega)
  unfold jq_exs
  omega
/-- pairs asked of the class, where nothing is known yet -/
theorem c143 {N W K : Nat} {H : jm_H} (st : jm_st H) (h1 : 3 ≤ N) (h2 : N ≤ 6) (hw : W ≤ 2) (hK : K < 3) (he : jm_I H 176 (((N - 3) * 3 + W) * 3 + K) = -1) : ∃ H1, jm_st H1 ∧ ∀ Q, jm_c none 143 [.ref 2, .int (nI N), .int (nI W), .int (nI K)] H Q = Q (some (.int (nI (jq_exs N W (if K = 0 then 0 else K + 1))))) H1 := by
  have hK4 : (if K = 0 then 0 else K + 1) < 4 := by split <;> omega
  obtain ⟨G, fG, qG⟩ := c144 (K := if K = 0 then 0 else K + 1) st h1 h2 hw hK4
  have stG := jf_fr_st fG st
  have hs : jr_sz (nI N) (nI W) := (jr_row_nI h1 (show N ≤ 12 by omega) hw (p2_pos N)).1
  have r := st_r2_12 st
  have rG := st_r2_12 stG
  have hidx : ((N - 3) * 3 + W) * 3 + K < 36 := by omega
  have k0 : ¬ nI K < 0 := nI_geK (by omega)
  have k2 : nI K ≤ (2 : Int32) := (nI_leI (b := 2) (by omega) (by decide)).mpr (by omega)
  have n6 : nI N ≤ (6 : Int32) := (nI_leI (b := 6) (by omega) (by decide)).mpr h2
  have zk : (nI K = (0 : Int32)) = (K = 0) := propext (nI_eqI (b := 0) (by omega) (by decide))
  have zk1 : (nI K = (1 : Int32)) = (K = 1) := propext (nI_eqI (b := 1) (by omega) (by decide))
  have ei : ((((nI N - (3 : Int32)) * (3 : Int32)) + nI W) * (3 : Int32)) + nI K = nI (((N - 3) * 3 + W) * 3 + K) := by
    rw [show (3 : Int32) = nI 3 from rfl, pk_sub h1, pk_mul, nI_addN, pk_mul, nI_addN]
  have hin : ¬ (nI (((N - 3) * 3 + W) * 3 + K) < 0 ∨ 36 ≤ (nI (((N - 3) * 3 + W) * 3 + K)).toNatClampNeg) := nI_inK hidx (by decide)
  have hlt : nI (((N - 3) * 3 + W) * 3 + K) < Int32.ofNat 36 := (nI_ltI (b := 36) (by omega) (by decide)).mpr hidx
  have fw : jf_fr (fun q => q = 176) G (jm_pI G 176 (((N - 3) * 3 + W) * 3 + K) (nI (jq_exs N W (if K = 0 then 0 else K + 1)))) := jf_fr_pI rfl
  have stw := jf_fr_st fw stG
  refine ⟨_, stw, fun Q => ?_⟩
  rw [en143, u143_0, c93, if_pos hs]
  simp only [Option.toList_some, List.append_nil]
  rw [u143_5, if_neg i1_0, u143_8, if_neg k0, u143_12, if_pos k2, u143_19, if_pos n6, u143_28 (st_t2 st) (by rw [r]; decide) (by rw [r]; decide) (by rw [r, st_t176 st]; decide), r, st_l176 st, ei, if_pos hlt,
    u143_53 (st_t2 st) (by rw [r]; decide) (by rw [r, st_l176 st]; exact hin) (by rw [r]; decide) (by rw [r]; exact st_t176 st), r, nI_cl (by omega), he, if_neg (fun g => g rfl), u143_64 (st_t2 st) (by rw [r]; decide), r, ite_eqP (congrArg Not zk)]
  have h91 : jm_w none 8 143 91 [.ref 2, .int (nI N), .int (nI W), .int (nI K), .int (nI (((N - 3) * 3 + W) * 3 + K))] [.int (nI (if K = 0 then 0 else K + 1)), .int (nI W), .int (nI N), .ref 2, .int (nI (((N - 3) * 3 + W) * 3 + K)), .ref 176] H Q = Q (some (.int (nI (jq_exs N W (if K = 0 then 0 else K + 1))))) (jm_pI G 176 (((N - 3) * 3 + W) * 3 + K) (nI (jq_exs N W (if K = 0 then 0 else K + 1)))) := by
    rw [u143_91 (st_t2 st), qG]
    simp only [Option.toList_some, List.cons_append, List.nil_append]
    rw [u143_94 (by rw [st_l176 stG]; exact hin) (st_t176 stG), nI_cl (by omega), u143_95 (st_t2 stw) (by rw [st_r2_12 stw]; decide) (by rw [st_r2_12 stw, st_l176 stw]; exact hin) (by rw [st_r2_12 stw]; decide) (by rw [st_r2_12 stw]; exact st_t176 stw), st_r2_12 stw, nI_cl (by omega), jm_I_pI, if_pos ⟨rfl, rfl⟩]
  by_cases hk0 : K = 0
  · rw [if_neg (fun g => g hk0), u143_77]
    rw [if_pos hk0] at h91 ⊢
    exact h91
  · rw [if_pos hk0, u143_81, ite_eqP (congrArg Not zk1)]
    rw [if_neg hk0] at h91
    by_cases hk1 : K = 1
    · rw [if_neg (fun g => g hk1), u143_86, if_neg hk0]
      rw [hk1] at h91 ⊢
      exact h91
    · have hk2 : K = 2 := by omega
      rw [if_pos hk1, u143_90, if_neg hk0]
      rw [hk2] at h91 ⊢
      exact h91
theorem M248 {N W K : Nat} (h1 : 3 ≤ N) (h2 : N ≤ 6) (hw : W ≤ 2) (hK : K < 3) : jq_M 248 [.int (nI N), .int (nI W), .int (nI K)] (.int (nI (jq_exs N W (if K = 0 then 0 else K + 1)))) := fun H st => by
  obtain ⟨H1, f1, q1⟩ := s248 (W := W) h1 h2 hw hK (2 ^ N) 0 0 .null .null H (Or.inl rfl) (by omega) st
  refine ⟨H1, jq_fn_of f1, fun Q => ?_⟩
  have hs : jr_sz (nI N) (nI W) := (jr_row_nI h1 (show N ≤ 12 by omega) hw (p2_pos N)).1
  have k4 : (nI K).toInt = K := nI_toInt (by omega)
  have n6 : nI N ≤ (6 : Int32) := (nI_leI (b := 6) (by omega) (by decide)).mpr h2
  rw [en248, u248_0, c217, if_pos hs]
  simp only [Option.toList_some, List.append_nil]
  rw [u248_5, if_neg i1_0, u248_8, c176, i32_0, i32_2, if_pos (by omega)]
  simp only [Option.toList_some, List.append_nil]
  rw [u248_14, if_pos i1_0, u248_19, if_pos n6, u248_28]
  show jm_w none 7 248 34 [.ref 180, .int (nI N), .int (nI W), .int (nI K), .int (nI 0), .int (nI 0), .null, .null] [] H Q = _
  rw [q1, Nat.zero_add]
  rfl
