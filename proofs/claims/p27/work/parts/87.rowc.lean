set_option maxRecDepth 20000
/-! one row asked of both -/
theorem i32_11 : (11 : Int32).toInt = 11 := by decide
section ROWC
variable {N W : Nat}
theorem jq_neg_gr (h1 : 3 ≤ N) : jf_neg N (2 ^ (N - 1) - 1) = 2 ^ (N - 1) + 1 := by
  have hh := p2_half (show 1 ≤ N by omega)
  have h4 : 2 ^ 2 ≤ 2 ^ (N - 1) := p2_le (by omega)
  unfold jf_neg
  rw [Nat.mod_eq_of_lt (by omega)]
  omega
theorem jq_row1_p {A K : Nat} (hn : A ≠ 2 ^ (N - 1)) (h0 : A ≠ 0) (hK : 1 ≤ K ∧ K ≤ 7) : jq_row1 N W A K = (if K = 1 then ((jf_run N (jf_bare N A) : Nat) : Int) else if K = 2 then jf_reg N (jf_bare N A) else if K = 3 then ((jf_exp N W (jf_bare N A) : Nat) : Int) else if K = 4 then ((jf_fb N W (jf_bare N A) : Nat) : Int) else if K = 5 then ((jf_frac N W (jf_bare N A) : Nat) : Int) else if K = 6 then ((jq_om N W (jf_bare N A) : Nat) : Int) else jq_op N W (jf_bare N A)) := by
  unfold jq_row1
  rw [if_neg (show ¬ K = 9 by omega), if_neg hn, if_neg (show ¬ K = 0 by omega), if_neg (show ¬ K = 8 by omega), if_neg (show ¬ K = 10 by omega), if_neg (show ¬ K = 11 by omega), if_neg h0]
theorem jq_up {A : Nat} (h2 : N ≤ 12) : (nI A + (1 : Int32)) &&& (((1 : Int32) <<< (nI N &&& 31)) - (1 : Int32)) = jI (((A + 1) % 2 ^ N : Nat) : Int) := by
  rw [nI_succK, nI_p2 (by omega), nI_msk _ (by omega), jI_n]
theorem jq_dn {A : Nat} (h2 : N ≤ 12) : (nI A - (1 : Int32)) &&& (((1 : Int32) <<< (nI N &&& 31)) - (1 : Int32)) = jI (((A : Int) - 1) % (2 ^ N : Nat)) := by
  rw [jI_n, jI_1, jI_sub, ← jI_1, nI_p2 (by omega), nI_mskz _ (by omega)]
theorem C107 {A K : Nat} (h1 : 3 ≤ N) (h2 : N ≤ 12) (hw : W ≤ 2) (hA : A < 2 ^ N) (hK : K < 12) : jq_C 107 [.int (nI N), .int (nI W), .int (nI A), .int (nI K)] (.int (jI (jq_row1 N W A K))) := fun H st => by
  have hp := p2_12 h2
  have hh := p2_half (show 1 ≤ N by omega)
  have k0 : ¬ nI K < 0 := nI_geK (by omega)
  have k11 : nI K ≤ (11 : Int32) := (nI_leI (b := 11) (by omega) (by decide)).mpr (by omega)
  have z9 : (nI K = (9 : Int32)) = (K = 9) := propext (nI_eqI (b := 9) (by omega) (by decide))
  have start : ∀ Q, jm_c none 107 [.ref 2, .int (nI N), .int (nI W), .int (nI A), .int (nI K)] H Q = if ¬ K = 9 then jm_w none 5 107 37 [.ref 2, .int (nI N), .int (nI W), .int (nI A), .int (nI K)] [] H Q else jm_w none 5 107 31 [.ref 2, .int (nI N), .int (nI W), .int (nI A), .int (nI K)] [] H Q := by
    intro Q
    rw [en107, u107_0, c99, if_pos (jr_row_nI h1 h2 hw hA)]
    simp only [Option.toList_some, List.append_nil]
    rw [u107_6, if_neg i1_0, u107_9, if_neg k0, u107_14, if_pos k11, u107_24, ite_eqP (congrArg Not z9)]
  by_cases h9 : K = 9
  · refine ⟨H, jf_fr_refl H, fun Q => ?_⟩
    rw [start, if_neg (fun g => g h9), u107_31, c64 h2 (by omega)]
    simp only [Option.toList_some, List.append_nil]
    rw [u107_36]
    unfold jq_row1
    rw [if_pos h9, jI_n]
  · have e37 : ∀ Q, jm_c none 107 [.ref 2, .int (nI N), .int (nI W), .int (nI A), .int (nI K)] H Q = if A = 2 ^ (N - 1) then Q (some (.int (-100000))) H else jm_w none 5 107 50 [.ref 2, .int (nI N), .int (nI W), .int (nI A), .int (nI K)] [.int (nI K)] H Q := by
      intro Q
      rw [start, if_pos h9, u107_37, c69 (by omega) (by omega) (by omega)]
      simp only [Option.toList_some, List.append_nil]
      rw [u107_42]
      by_cases hn : A = 2 ^ (N - 1)
      · rw [if_pos hn, if_pos hn, if_neg i1_0, u107_45]
      · rw [if_neg hn, if_neg hn, if_pos rfl, u107_48]
    by_cases hn : A = 2 ^ (N - 1)
    · refine ⟨H, jf_fr_refl H, fun Q => ?_⟩
      rw [e37, if_pos hn]
      unfold jq_row1
      rw [if_neg h9, if_pos hn]
      rfl
    · have part : 1 ≤ K ∧ K ≤ 7 → ∃ H1, jf_fr jq_PC H H1 ∧ ∀ Q, jm_c none 107 [.ref 2, .int (nI N), .int (nI W), .int (nI A), .int (nI K)] H Q = Q (some (.int (jI (jq_row1 N W A K)))) H1 := by
        intro hk
        have n0 : ¬ nI K = (0 : Int32) := fun g => by have := (nI_eqI (b := 0) (by omega) (by decide)).mp g; omega
        have n8 : ¬ nI K = (8 : Int32) := fun g => by have := (nI_eqI (b := 8) (by omega) (by decide)).mp g; omega
        have n10 : ¬ nI K = (10 : Int32) := fun g => by have := (nI_eqI (b := 10) (by omega) (by decide)).mp g; omega
        have n11 : ¬ nI K = (11 : Int32) := fun g => by have := (nI_eqI (b := 11) (by omega) (by decide)).mp g; omega
        by_cases h0 : A = 0
        · refine ⟨H, jf_fr_refl H, fun Q => ?_⟩
          rw [e37, if_neg hn, u107_50_d n0 n8 n10 n11, u107_161, if_neg (fun g => g (by rw [h0]; rfl)), u107_165, u107_179]
          unfold jq_row1
          rw [if_neg h9, if_neg hn, if_neg (show ¬ K = 0 by omega), if_neg (show ¬ K = 8 by omega), if_neg (show ¬ K = 10 by omega), if_neg (show ¬ K = 11 by omega), if_pos h0]
          rfl
        · obtain ⟨H1, f1, q1⟩ := c113 st h1 h2 hw hA h0 hn hk
          refine ⟨H1, f1, fun Q => ?_⟩
          rw [e37, if_neg hn, u107_50_d n0 n8 n10 n11, u107_161, ite_eqP (congrArg Not (jq_isz (show A < 4096 by omega))), if_pos h0, u107_170 (st_t2 st), q1]
          simp only [Option.toList_some, List.append_nil]
          rw [u107_179, jq_row1_p hn h0 hk]
      match K, hK with
      | 0, _ =>
        refine ⟨H, jf_fr_refl H, fun Q => ?_⟩
        have hob := jf_ord_b (show 1 ≤ N by omega) h2 hA
        rw [e37, if_neg hn]
        show jm_w none 5 107 50 _ [.int 0] H Q = _
        rw [u107_50_0, u107_92, c108 (by omega) h2 hA]
        simp only [Option.toList_some, List.append_nil]
        rw [u107_97, c46 (by omega)]
        simp only [Option.toList_some, List.append_nil]
        rw [u107_100, jq_sg_ord (by omega) hA hn]
        unfold jq_row1
        rw [if_neg (by decide), if_neg hn, if_pos rfl]
      | 1, _ => exact part (by decide)
      | 2, _ => exact part (by decide)
      | 3, _ => exact part (by decide)
      | 4, _ => exact part (by decide)
      | 5, _ => exact part (by decide)
      | 6, _ => exact part (by decide)
      | 7, _ => exact part (by decide)
      | 8, _ =>
        obtain ⟨H1, i1, _, f1, q1⟩ := c68 (S := none) (H := H) (st_t27 st) (st_r27_0 st) (by decide) (by decide) (st_t28 st) h1 h2 hw hA
        have st1 := jf_fr_st f1 st
        refine ⟨H1, jf_fr_mono f1 (fun q h => by rcases h with rfl | rfl <;> exact Or.inr (Or.inl (by decide))), fun Q => ?_⟩
        rw [e37, if_neg hn]
        show jm_w none 5 107 50 _ [.int 8] H Q = _
        rw [u107_50_8, u107_101 (st_t2 st) (by rw [st_r2_5 st]; decide) (by rw [st_r2_5 st]; exact st_t27 st), st_r2_5 st, q1]
        simp only [Option.toList_none, List.nil_append]
        rw [u107_111 (st_t2 st1) (by rw [st_r2_5 st1]; decide) (by rw [st_r2_5 st1]; exact st_t27 st1), st_r2_5 st1, c109 (st_t27 st1) i1 (jq_b_mono (jq_val_b h1 h2 hw hA) (by decide) (by decide) (by decide))]
        simp only [Option.toList_some, List.append_nil]
        rw [u107_118]
        unfold jq_row1
        rw [if_neg (by decide), if_neg hn, if_neg (by decide), if_pos rfl]
      | 9, _ => exact absurd rfl h9
      | 10, _ =>
        refine ⟨H, jf_fr_refl H, fun Q => ?_⟩
        have zq : (nI A = nI (2 ^ (N - 1) - 1)) = (A = 2 ^ (N - 1) - 1) := propext (nI_eqI (by omega) (by omega))
        rw [e37, if_neg hn]
        show jm_w none 5 107 50 _ [.int 10] H Q = _
        rw [u107_50_10, u107_119, c60 (by omega) (by omega)]
        simp only [Option.toList_some, List.cons_append, List.nil_append]
        rw [u107_124, ite_eqP (congrArg Not zq)]
        unfold jq_row1
        rw [if_neg (show ¬ (10 : Nat) = 9 by decide), if_neg hn, if_neg (show ¬ (10 : Nat) = 0 by decide), if_neg (show ¬ (10 : Nat) = 8 by decide), if_pos (show (10 : Nat) = 10 from rfl)]
        by_cases hg : A = 2 ^ (N - 1) - 1
        · rw [if_neg (fun g => g hg), u107_127, u107_137, if_pos hg]
          rfl
        · rw [if_pos hg, u107_132, en111, u111_0, jq_up h2]
          simp only [Option.toList_some, List.append_nil]
          rw [u107_137, if_neg hg]
      | 11, _ =>
        refine ⟨H, jf_fr_refl H, fun Q => ?_⟩
        have zq : (nI A = nI (2 ^ (N - 1) + 1)) = (A = 2 ^ (N - 1) + 1) := propext (nI_eqI (by omega) (by omega))
        rw [e37, if_neg hn]
        show jm_w none 5 107 50 _ [.int 11] H Q = _
        rw [u107_50_11, u107_138, c60 (by omega) (by omega)]
        simp only [Option.toList_some, List.cons_append, List.nil_append]
        rw [u107_144, c64 h2 (by omega), jq_neg_gr h1]
        simp only [Option.toList_some, List.cons_append, List.nil_append]
        rw [u107_147, ite_eqP (congrArg Not zq)]
        unfold jq_row1
        rw [if_neg (show ¬ (11 : Nat) = 9 by decide), if_neg hn, if_neg (show ¬ (11 : Nat) = 0 by decide), if_neg (show ¬ (11 : Nat) = 8 by decide), if_neg (show ¬ (11 : Nat) = 10 by decide), if_pos (show (11 : Nat) = 11 from rfl)]
        by_cases hg : A = 2 ^ (N - 1) + 1
        · rw [if_neg (fun g => g hg), u107_150, u107_160, if_pos hg]
          rfl
        · rw [if_pos hg, u107_155, en112, u112_0, jq_dn h2]
          simp only [Option.toList_some, List.append_nil]
          rw [u107_160, if_neg hg]
theorem M233 {A K : Nat} (h1 : 3 ≤ N) (h2 : N ≤ 12) (hw : W ≤ 2) (hA : A < 2 ^ N) (hK : K < 12) : jq_M 233 [.int (nI N), .int (nI W), .int (nI A), .int (nI K)] (.int (jI (jq_row1 N W A K))) := fun H st => by
  have hp := p2_12 h2
  have hh := p2_half (show 1 ≤ N by omega)
  have k4 : (nI K).toInt = K := nI_toInt (by omega)
  have zk : ∀ j : Nat, j < 100 → (nI K = nI j) = (K = j) := fun j hj => propext (nI_eqI (by omega) (by omega))
  have z0 := zk 0 (by decide)
  have z8 := zk 8 (by decide)
  have z9 := zk 9 (by decide)
  have z10 := zk 10 (by decide)
  have z11 := zk 11 (by decide)
  have start : ∀ Q, jm_c none 233 [.ref 180, .int (nI N), .int (nI W), .int (nI A), .int (nI K)] H Q = if ¬ K = 9 then jm_w none 5 233 37 [.ref 180, .int (nI N), .int (nI W), .int (nI A), .int (nI K)] [] H Q else jm_w none 5 233 31 [.ref 180, .int (nI N), .int (nI W), .int (nI A), .int (nI K)] [] H Q := by
    intro Q
    rw [en233, u233_0, c220, if_pos (jr_row_nI h1 h2 hw hA)]
    simp only [Option.toList_some, List.append_nil]
    rw [u233_6, if_neg i1_0, u233_9, c176, i32_0, i32_11, if_pos (by omega)]
    simp only [Option.toList_some, List.append_nil]
    rw [u233_17, if_pos i1_0, u233_24, show (9 : Int32) = nI 9 from rfl, ite_eqP (congrArg Not z9)]
  by_cases h9 : K = 9
  · refine ⟨H, jq_fn_refl H, fun Q => ?_⟩
    rw [start, if_neg (fun g => g h9), u233_31, c194 h2 (by omega)]
    simp only [Option.toList_some, List.append_nil]
    rw [u233_36]
    unfold jq_row1
    rw [if_pos h9, jI_n]
  · have e49 : ∀ Q, jm_c none 233 [.ref 180, .int (nI N), .int (nI W), .int (nI A), .int (nI K)] H Q = if A = 2 ^ (N - 1) then Q (some (.int (-100000))) H else jm_w none 5 233 49 [.ref 180, .int (nI N), .int (nI W), .int (nI A), .int (nI K)] [] H Q := by
      intro Q
      rw [start, if_pos h9, u233_37, c204 (by omega) (by omega) (by omega)]
      simp only [Option.toList_some, List.append_nil]
      rw [u233_42]
      by_cases hn : A = 2 ^ (N - 1)
      · rw [if_pos hn, if_pos hn, if_neg i1_0, u233_45]
      · rw [if_neg hn, if_neg hn, if_pos rfl]
    by_cases hn : A = 2 ^ (N - 1)
    · refine ⟨H, jq_fn_refl H, fun Q => ?_⟩
      rw [e49, if_pos hn]
      unfold jq_row1
      rw [if_neg h9, if_pos hn]
      rfl
    · by_cases h0 : K = 0
      · refine ⟨H, jq_fn_refl H, fun Q => ?_⟩
        rw [e49, if_neg hn, u233_49, show (0 : Int32) = nI 0 from rfl, ite_eqP (congrArg Not z0), if_neg (fun g => g h0), u233_54, c206 (by omega) h2 hA]
        simp only [Option.toList_some, List.append_nil]
        rw [u233_59]
        unfold jq_row1
        rw [if_neg h9, if_neg hn, if_pos h0]
      · by_cases h8 : K = 8
        · obtain ⟨H1, f1, q1⟩ := c234 st h1 h2 hw hA hn
          refine ⟨H1, jq_fn_of f1, fun Q => ?_⟩
          rw [e49, if_neg hn, u233_49, show (0 : Int32) = nI 0 from rfl, ite_eqP (congrArg Not z0), if_pos h0, u233_60, show (8 : Int32) = nI 8 from rfl, ite_eqP (congrArg Not z8), if_neg (fun g => g h8), u233_67 (st_t180 st), q1]
          simp only [Option.toList_some, List.append_nil]
          rw [u233_74]
          unfold jq_row1
          rw [if_neg h9, if_neg hn, if_neg h0, if_pos h8]
        · have e75 : ∀ Q, jm_c none 233 [.ref 180, .int (nI N), .int (nI W), .int (nI A), .int (nI K)] H Q = jm_w none 5 233 75 [.ref 180, .int (nI N), .int (nI W), .int (nI A), .int (nI K)] [] H Q := by
            intro Q
            rw [e49, if_neg hn, u233_49, show (0 : Int32) = nI 0 from rfl, ite_eqP (congrArg Not z0), if_pos h0, u233_60, show (8 : Int32) = nI 8 from rfl, ite_eqP (congrArg Not z8), if_pos h8]
          by_cases h10 : K = 10
          · refine ⟨H, jq_fn_refl H, fun Q => ?_⟩
            have eg : nI (2 ^ (N - 1)) - (1 : Int32) = nI (2 ^ (N - 1) - 1) := by rw [nI_1L, pk_sub (by have := p2_pos (N - 1); omega)]
            have zq : (nI A = nI (2 ^ (N - 1) - 1)) = (A = 2 ^ (N - 1) - 1) := propext (nI_eqI (by omega) (by omega))
            rw [e75, u233_75, show (10 : Int32) = nI 10 from rfl, ite_eqP (congrArg Not z10), if_neg (fun g => g h10), u233_82, c191 (by omega) (by omega)]
            simp only [Option.toList_some, List.cons_append, List.nil_append]
            rw [u233_87, eg, ite_eqP (congrArg Not zq)]
            unfold jq_row1
            rw [if_neg h9, if_neg hn, if_neg h0, if_neg h8, if_pos h10]
            by_cases hg : A = 2 ^ (N - 1) - 1
            · rw [if_neg (fun g => g hg), u233_92, u233_106, if_pos hg]
              rfl
            · rw [if_pos hg, u233_97, jq_up h2, u233_106, if_neg hg]
          · by_cases h11 : K = 11
            · refine ⟨H, jq_fn_refl H, fun Q => ?_⟩
              have zq : (nI A = nI (2 ^ (N - 1) + 1)) = (A = 2 ^ (N - 1) + 1) := propext (nI_eqI (by omega) (by omega))
              rw [e75, u233_75, show (10 : Int32) = nI 10 from rfl, ite_eqP (congrArg Not z10), if_pos h10, u233_107, show (11 : Int32) = nI 11 from rfl, ite_eqP (congrArg Not z11), if_neg (fun g => g h11), u233_114, c191 (by omega) (by omega)]
              simp only [Option.toList_some, List.cons_append, List.nil_append]
              rw [u233_119, nI_succK, ite_eqP (congrArg Not zq)]
              unfold jq_row1
              rw [if_neg h9, if_neg hn, if_neg h0, if_neg h8, if_neg h10, if_pos h11]
              by_cases hg : A = 2 ^ (N - 1) + 1
              · rw [if_neg (fun g => g hg), u233_124, u233_138, if_pos hg]
                rfl
              · rw [if_pos hg, u233_129, jq_dn h2, u233_138, if_neg hg]
            · have e139 : ∀ Q, jm_c none 233 [.ref 180, .int (nI N), .int (nI W), .int (nI A), .int (nI K)] H Q = jm_w none 5 233 139 [.ref 180, .int (nI N), .int (nI W), .int (nI A), .int (nI K)] [] H Q := by
                intro Q
                rw [e75, u233_75, show (10 : Int32) = nI 10 from rfl, ite_eqP (congrArg Not z10), if_pos h10, u233_107, show (11 : Int32) = nI 11 from rfl, ite_eqP (congrArg Not z11), if_pos h11]
              by_cases hA0 : A = 0
              · refine ⟨H, jq_fn_refl H, fun Q => ?_⟩
                rw [e139, u233_139, ite_eqP (congrArg Not (jq_isz (show A < 4096 by omega))), if_neg (fun g => g hA0), u233_143]
                unfold jq_row1
                rw [if_neg h9, if_neg hn, if_neg h0, if_neg h8, if_neg h10, if_neg h11, if_pos hA0]
                rfl
              · obtain ⟨H1, f1, q1⟩ := M233p (K := K) st h1 h2 hw hA hA0 hn (by omega)
                refine ⟨H1, jq_fn_of f1, fun Q => ?_⟩
                rw [e139, u233_139, ite_eqP (congrArg Not (jq_isz (show A < 4096 by omega))), if_pos hA0, q1, jq_row1_p hn hA0 (by omega)]
end ROWC
