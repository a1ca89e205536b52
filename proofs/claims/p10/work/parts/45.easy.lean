set_option maxRecDepth 20000
/-! cases of the law: numbers alone, and such as the kernel runs for each of few arguments -/
theorem jl_ok_pure {ci mi : Nat} {as : List Value} (x : Int32) (hc : jm_c none ci (.ref 2 :: as) jm_G (fun v G => v = some (.int x) ∧ G = jm_G)) (hm : jm_c none mi (.ref 180 :: as) jm_G (fun v G => v = some (.int x) ∧ jl_lo G)) : jl_ok ci mi as := by
  refine ⟨x, jm_c_mono hc ?_⟩
  rintro v G ⟨h1, rfl⟩
  exact ⟨h1, jl_lo_st jm_G_st, hm⟩
theorem jl_loG : jl_lo jm_G := jl_lo_st jm_G_st
theorem jr_arg {N : Nat} {w b : Int32} (hN : N ≤ 12) (h : jr_row (nI N) w b) : ∃ B, B < 2 ^ N ∧ b = nI B := by
  have hp := p2_12 hN
  refine ⟨b.toInt.toNat, ?_, ?_⟩
  · have h1 := h.2.2
    have e : (2 : Int) ^ (nI N).toInt.toNat = ((2 ^ N : Nat) : Int) := by
      rw [nI_toInt (by omega)]
      simp
    rw [e] at h1
    have := h.2.1
    omega
  · rw [jI_n, Int.toNat_of_nonneg h.2.1]; exact jI_of b
theorem i1_0 : ¬ (1 : Int32) = 0 := by decide
theorem i1_0n : ¬ ¬ ¬ (1 : Int32) = 0 := by decide
theorem jf_ord_b {N A : Nat} (h1 : 1 ≤ N) (h2 : N ≤ 12) (hA : A < 2 ^ N) : -2048 ≤ jf_ord N A ∧ jf_ord N A < 2048 := by
  have hp := p2_12 h2
  have hh := p2_half h1
  unfold jf_ord
  split <;> omega
theorem jl_h14 (n w a b : Int32) : jl_ok 114 230 [.int n, .int w, .int a, .int b] := by
  by_cases hr : jr_row n w a ∧ jr_row n w b
  · obtain ⟨N, W, A, g1, g2, g3, g4, rfl, rfl, rfl⟩ := jr_row_of hr.1
    obtain ⟨B, g5, rfl⟩ := jr_arg g2 hr.2
    have hp := p2_12 g2
    have oA := jf_ord_b (by omega) g2 g4
    have oB := jf_ord_b (by omega) g2 g5
    refine jl_ok_pure (jI (if jf_ord N A < jf_ord N B then -1 else if jf_ord N A = jf_ord N B then 0 else 1)) ?_ ?_
    · rw [en114, u114_0, c115, if_pos hr]
      simp only [Option.toList_some, List.append_nil, List.cons_append, List.nil_append]
      rw [u114_8, if_pos i1_0, u114_14, c108 (by omega) g2 g4]
      simp only [Option.toList_some, List.append_nil, List.cons_append, List.nil_append]
      rw [u114_19, c108 (by omega) g2 g5]
      simp only [Option.toList_some, List.append_nil, List.cons_append, List.nil_append]
      rw [u114_25, c116 ⟨by omega, by omega⟩ ⟨by omega, by omega⟩]
      simp only [Option.toList_some, List.append_nil, List.cons_append, List.nil_append]
      rw [u114_28]
      exact ⟨rfl, rfl⟩
    · rw [en230, u230_0, c220, if_pos hr.1]
      simp only [Option.toList_some, List.append_nil, List.cons_append, List.nil_append]
      rw [u230_6, if_neg i1_0, u230_9, c220, if_pos hr.2]
      simp only [Option.toList_some, List.append_nil, List.cons_append, List.nil_append]
      rw [u230_16, if_pos i1_0, u230_22, c231 (by omega) g2 g4]
      simp only [Option.toList_some, List.append_nil, List.cons_append, List.nil_append]
      rw [u230_27, c231 (by omega) g2 g5]
      simp only [Option.toList_some, List.append_nil, List.cons_append, List.nil_append]
      rw [u230_35, u230_44, u230_48, u230_55, u230_59, u230_60, u230_60, u230_60]
      simp only [jI_le (show j3 (jf_ord N B) from ⟨by omega, by omega⟩) (show j3 (jf_ord N A) from ⟨by omega, by omega⟩), jI_le (show j3 (jf_ord N A) from ⟨by omega, by omega⟩) (show j3 (jf_ord N B) from ⟨by omega, by omega⟩)]
      by_cases h1 : jf_ord N A < jf_ord N B
      · rw [if_neg (by omega), if_pos h1]; exact ⟨rfl, jl_loG⟩
      · rw [if_pos (by omega), if_neg h1]
        by_cases h2 : jf_ord N A = jf_ord N B
        · rw [if_pos (by omega), if_pos h2]; exact ⟨rfl, jl_loG⟩
        · rw [if_neg (by omega), if_neg h2]; exact ⟨rfl, jl_loG⟩
  · refine jl_ok_pure (-2) ?_ ?_
    · rw [en114, u114_0, c115, if_neg hr]
      simp only [Option.toList_some, List.append_nil, List.cons_append, List.nil_append]
      rw [u114_8, if_neg (by decide), u114_11]
      exact ⟨rfl, rfl⟩
    · rw [en230, u230_0, c220]
      simp only [Option.toList_some, List.append_nil, List.cons_append, List.nil_append]
      by_cases h1 : jr_row n w a
      · rw [if_pos h1, u230_6, if_neg i1_0, u230_9, c220, if_neg (fun h => hr ⟨h1, h⟩)]
        simp only [Option.toList_some, List.append_nil, List.cons_append, List.nil_append]
        rw [u230_16, if_neg (by decide), u230_19]
        exact ⟨rfl, jl_loG⟩
      · rw [if_neg h1, u230_6, if_pos rfl, u230_19]
        exact ⟨rfl, jl_loG⟩
theorem jl_h15 (n w a b : Int32) : jl_ok 117 232 [.int n, .int w, .int a, .int b] := by
  by_cases hr : jr_row n w a ∧ jr_row n w b
  · obtain ⟨N, W, A, g1, g2, g3, g4, rfl, rfl, rfl⟩ := jr_row_of hr.1
    obtain ⟨B, g5, rfl⟩ := jr_arg g2 hr.2
    have hp := p2_12 g2
    have oA := jf_ord_b (by omega) g2 g4
    have oB := jf_ord_b (by omega) g2 g5
    refine jl_ok_pure (if A = 2 ^ (N - 1) ∨ B = 2 ^ (N - 1) then -1 else jI (max 0 (jf_ord N B - jf_ord N A + 1))) ?_ ?_
    · rw [en117, u117_0, c115, if_pos hr]
      simp only [Option.toList_some, List.append_nil, List.cons_append, List.nil_append]
      rw [u117_8, if_neg i1_0, u117_11, c69 (by omega) (by omega) (by omega)]
      simp only [Option.toList_some, List.append_nil, List.cons_append, List.nil_append]
      rw [u117_16, u117_28]
      by_cases h1 : A = 2 ^ (N - 1)
      · rw [if_pos h1, if_pos i1_0, if_pos (Or.inl h1)]; exact ⟨rfl, rfl⟩
      · rw [if_neg h1, if_neg (by decide), u117_19, c69 (by omega) (by omega) (by omega)]
        simp only [Option.toList_some, List.append_nil, List.cons_append, List.nil_append]
        rw [u117_25, u117_28]
        by_cases h2 : B = 2 ^ (N - 1)
        · rw [if_pos h2, if_neg i1_0, if_pos (Or.inr h2)]; exact ⟨rfl, rfl⟩
        · rw [if_neg h2, if_pos rfl, if_neg (show ¬ (A = 2 ^ (N - 1) ∨ B = 2 ^ (N - 1)) by omega), u117_30, c108 (by omega) g2 g5]
          simp only [Option.toList_some, List.append_nil, List.cons_append, List.nil_append]
          rw [u117_37, c108 (by omega) g2 g4]
          simp only [Option.toList_some, List.append_nil, List.cons_append, List.nil_append]
          rw [u117_42, jI_sub, jI_1, jI_0, jI_add, c74 ⟨by omega, by omega⟩ ⟨by omega, by omega⟩]
          simp only [Option.toList_some, List.append_nil, List.cons_append, List.nil_append]
          rw [u117_48]
          exact ⟨rfl, rfl⟩
    · rw [en232, u232_0, c220, if_pos hr.1]
      simp only [Option.toList_some, List.append_nil, List.cons_append, List.nil_append]
      rw [u232_6, if_neg i1_0, u232_9, c220, if_pos hr.2]
      simp only [Option.toList_some, List.append_nil, List.cons_append, List.nil_append]
      rw [u232_16, if_neg i1_0, u232_19, c204 (by omega) (by omega) (by omega)]
      simp only [Option.toList_some, List.append_nil, List.cons_append, List.nil_append]
      rw [u232_24, u232_36]
      by_cases h1 : A = 2 ^ (N - 1)
      · rw [if_pos h1, if_pos i1_0, if_pos (Or.inl h1)]; exact ⟨rfl, jl_loG⟩
      · rw [if_neg h1, if_neg (by decide), u232_27, c204 (by omega) (by omega) (by omega)]
        simp only [Option.toList_some, List.append_nil, List.cons_append, List.nil_append]
        rw [u232_33, u232_36]
        by_cases h2 : B = 2 ^ (N - 1)
        · rw [if_pos h2, if_neg i1_0, if_pos (Or.inr h2)]; exact ⟨rfl, jl_loG⟩
        · rw [if_neg h2, if_pos rfl, if_neg (show ¬ (A = 2 ^ (N - 1) ∨ B = 2 ^ (N - 1)) by omega), u232_38, c231 (by omega) g2 g5]
          simp only [Option.toList_some, List.append_nil, List.cons_append, List.nil_append]
          rw [u232_44, c231 (by omega) g2 g4]
          simp only [Option.toList_some, List.append_nil, List.cons_append, List.nil_append]
          rw [u232_49, jI_sub, jI_1, jI_0, jI_add, u232_59, u232_63, u232_65, u232_65]
          simp only [jI_le (show j3 0 by decide) (show j3 (jf_ord N B - jf_ord N A + 1) from ⟨by omega, by omega⟩)]
          by_cases h3 : 0 ≤ jf_ord N B - jf_ord N A + 1
          · rw [if_pos h3, show max 0 (jf_ord N B - jf_ord N A + 1) = jf_ord N B - jf_ord N A + 1 by omega]; exact ⟨rfl, jl_loG⟩
          · rw [if_neg h3, show max 0 (jf_ord N B - jf_ord N A + 1) = 0 by omega]; exact ⟨rfl, jl_loG⟩
  · refine jl_ok_pure (-1) ?_ ?_
    · rw [en117, u117_0, c115, if_neg hr]
      simp only [Option.toList_some, List.append_nil, List.cons_append, List.nil_append]
      rw [u117_8, if_pos rfl, u117_28]
      exact ⟨rfl, rfl⟩
    · rw [en232, u232_0, c220]
      simp only [Option.toList_some, List.append_nil, List.cons_append, List.nil_append]
      by_cases h1 : jr_row n w a
      · rw [if_pos h1, u232_6, if_neg i1_0, u232_9, c220, if_neg (fun h => hr ⟨h1, h⟩)]
        simp only [Option.toList_some, List.append_nil, List.cons_append, List.nil_append]
        rw [u232_16, if_pos rfl, u232_36]
        exact ⟨rfl, jl_loG⟩
      · rw [if_neg h1, u232_6, if_pos rfl, u232_36]
        exact ⟨rfl, jl_loG⟩
