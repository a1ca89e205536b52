set_option maxRecDepth 20000
/-! calls without a state: both sides, whatever the heap -/
theorem jb_CM {ci mi : Nat} {as : List Value} {x : Int32} (hc : jq_C ci as (.int x)) (hm : jq_M mi as (.int x)) : ∃ x : Int32, jq_C ci as (.int x) ∧ jq_M mi as (.int x) := ⟨x, hc, hm⟩
theorem jbL_CM {ci mi : Nat} {as : List Value} {x : Int64} (hc : jq_C ci as (.long x)) (hm : jq_M mi as (.long x)) : ∃ x : Int64, jq_C ci as (.long x) ∧ jq_M mi as (.long x) := ⟨x, hc, hm⟩
theorem jb_h9 (n w a b k : Int32) : ∃ ans : Int32, jq_C 129 [.int n, .int w, .int a, .int b, .int k] (.int ans) ∧ jq_M 223 [.int n, .int w, .int a, .int b, .int k] (.int ans) := by
  by_cases h : jq_v2 n w a b k
  · obtain ⟨N, W, A, B, K, h1, h2, hw, hA, hB, hK, rfl, rfl, rfl, rfl, rfl⟩ := jq_v2_of h
    exact jb_CM (C129 h1 h2 hw hA hB hK) (M223 h1 h2 hw hA hB hK)
  · exact jb_CM (C129_n h) (M223_n h)
theorem jb_h10 (n w a b k : Int32) : ∃ ans : Int32, jq_C 130 [.int n, .int w, .int a, .int b, .int k] (.int ans) ∧ jq_M 224 [.int n, .int w, .int a, .int b, .int k] (.int ans) := by
  by_cases h : jq_v2 n w a b k
  · obtain ⟨N, W, A, B, K, h1, h2, hw, hA, hB, hK, rfl, rfl, rfl, rfl, rfl⟩ := jq_v2_of h
    exact jb_CM (C130 h1 h2 hw hA hB hK) (M224 h1 h2 hw hA hB hK)
  · exact jb_CM (C130_n h) (M224_n h)
theorem jb_h11 (n w a : Int32) : ∃ ans : Int32, jq_C 131 [.int n, .int w, .int a] (.int ans) ∧ jq_M 225 [.int n, .int w, .int a] (.int ans) := by
  by_cases h : jr_row n w a
  · obtain ⟨N, W, A, h1, h2, hw, hA, rfl, rfl, rfl⟩ := jr_row_of h
    exact jb_CM (C131 h1 h2 hw hA) (M225 h1 h2 hw hA)
  · refine jb_CM (x := -1) (jq_C0 fun H st Q => ?_) (jq_M0 fun H st Q => ?_)
    · rw [en131, u131_0, c99, if_neg h]
      simp only [Option.toList_some, List.append_nil]
      rw [u131_6, if_neg (by decide), u131_9]
    · rw [en225, u225_0, c220, if_neg h]
      simp only [Option.toList_some, List.append_nil]
      rw [u225_6, if_pos rfl, u225_19, u225_20]
theorem jb_h12 (n w a m u : Int32) : ∃ ans : Int32, jq_C 132 [.int n, .int w, .int a, .int m, .int u] (.int ans) ∧ jq_M 226 [.int n, .int w, .int a, .int m, .int u] (.int ans) := by
  by_cases h : jr_row n w a
  · by_cases hs : jr_sz m u
    · obtain ⟨N, W, A, h1, h2, hw, hA, rfl, rfl, rfl⟩ := jr_row_of h
      obtain ⟨M, U, g1, g2, gw, rfl, rfl⟩ := jr_sz_of hs
      exact jb_CM (C132 h1 h2 hw hA g1 g2 gw) (M226 h1 h2 hw hA g1 g2 gw)
    · refine jb_CM (x := -1) (jq_C0 fun H st Q => ?_) (jq_M0 fun H st Q => ?_)
      · rw [en132, u132_0, c99, if_pos h]
        simp only [Option.toList_some, List.append_nil]
        rw [u132_6, if_neg i1_0, u132_9, c93, if_neg hs]
        simp only [Option.toList_some, List.append_nil]
        rw [u132_16, if_neg (by decide), u132_19]
      · rw [en226, u226_0, c220, if_pos h]
        simp only [Option.toList_some, List.append_nil]
        rw [u226_6, if_neg i1_0, u226_9, c217, if_neg hs]
        simp only [Option.toList_some, List.append_nil]
        rw [u226_16, if_neg (by decide), u226_19]
  · refine jb_CM (x := -1) (jq_C0 fun H st Q => ?_) (jq_M0 fun H st Q => ?_)
    · rw [en132, u132_0, c99, if_neg h]
      simp only [Option.toList_some, List.append_nil]
      rw [u132_6, if_pos rfl, u132_19]
    · rw [en226, u226_0, c220, if_neg h]
      simp only [Option.toList_some, List.append_nil]
      rw [u226_6, if_pos rfl, u226_19]
theorem jb_h13 (n w a b : Int32) : ∃ ans : Int32, jq_C 133 [.int n, .int w, .int a, .int b] (.int ans) ∧ jq_M 228 [.int n, .int w, .int a, .int b] (.int ans) := by
  by_cases hs : jr_sz n w
  · by_cases ha : jq_pa a
    · by_cases hb : jq_pa b
      · obtain ⟨N, W, h1, h2, hw, rfl, rfl⟩ := jr_sz_of hs
        rw [jI_of a, jI_of b]
        exact jb_CM (C133 h1 h2 hw ha hb) (M228 h1 h2 hw ha hb)
      · refine jb_CM (x := -1) (jq_C0 fun H st Q => ?_) (jq_M0 fun H st Q => ?_)
        · rw [en133, u133_0, c93, if_pos hs]
          simp only [Option.toList_some, List.append_nil]
          rw [u133_5, if_neg i1_0, u133_8, c134, if_pos ha]
          simp only [Option.toList_some, List.append_nil]
          rw [u133_12, if_neg i1_0, u133_15, c134, if_neg hb]
          simp only [Option.toList_some, List.append_nil]
          rw [u133_20, if_neg (by decide), u133_23]
        · rw [en228, u228_0, c217, if_pos hs]
          simp only [Option.toList_some, List.append_nil]
          rw [u228_5, if_neg i1_0, u228_8, c176, i32_mil, i32_mml, if_pos ha]
          simp only [Option.toList_some, List.append_nil]
          rw [u228_18, if_neg i1_0, u228_21, c176, i32_mil, i32_mml, if_neg hb]
          simp only [Option.toList_some, List.append_nil]
          rw [u228_32, if_neg (by decide), u228_35]
    · refine jb_CM (x := -1) (jq_C0 fun H st Q => ?_) (jq_M0 fun H st Q => ?_)
      · rw [en133, u133_0, c93, if_pos hs]
        simp only [Option.toList_some, List.append_nil]
        rw [u133_5, if_neg i1_0, u133_8, c134, if_neg ha]
        simp only [Option.toList_some, List.append_nil]
        rw [u133_12, if_pos rfl, u133_23]
      · rw [en228, u228_0, c217, if_pos hs]
        simp only [Option.toList_some, List.append_nil]
        rw [u228_5, if_neg i1_0, u228_8, c176, i32_mil, i32_mml, if_neg ha]
        simp only [Option.toList_some, List.append_nil]
        rw [u228_18, if_pos rfl, u228_35]
  · refine jb_CM (x := -1) (jq_C0 fun H st Q => ?_) (jq_M0 fun H st Q => ?_)
    · rw [en133, u133_0, c93, if_neg hs]
      simp only [Option.toList_some, List.append_nil]
      rw [u133_5, if_pos rfl, u133_23]
    · rw [en228, u228_0, c217, if_neg hs]
      simp only [Option.toList_some, List.append_nil]
      rw [u228_5, if_pos rfl, u228_35]
theorem jb_h16 (n w a b c : Int32) : ∃ ans : Int32, jq_C 136 [.int n, .int w, .int a, .int b, .int c] (.int ans) ∧ jq_M 229 [.int n, .int w, .int a, .int b, .int c] (.int ans) := by
  by_cases h : jr_row n w a
  · by_cases hb : jr_row n w b
    · by_cases hc : jr_row n w c
      · obtain ⟨N, W, A, h1, h2, hw, hA, rfl, rfl, rfl⟩ := jr_row_of h
        obtain ⟨B, hB, rfl⟩ := jr_arg h2 hb
        obtain ⟨C, hC, rfl⟩ := jr_arg h2 hc
        exact jb_CM (C136 h1 h2 hw hA hB hC) (M229 h1 h2 hw hA hB hC)
      · refine jb_CM (x := -1) (jq_C0 fun H st Q => ?_) (jq_M0 fun H st Q => ?_)
        · rw [en136, u136_0, c115, if_pos ⟨h, hb⟩]
          simp only [Option.toList_some, List.append_nil]
          rw [u136_8, if_neg i1_0, u136_11, c99, if_neg hc]
          simp only [Option.toList_some, List.append_nil]
          rw [u136_18, if_neg (by decide), u136_21]
        · rw [en229, u229_0, c220, if_pos h]
          simp only [Option.toList_some, List.append_nil]
          rw [u229_6, if_neg i1_0, u229_9, c220, if_pos hb]
          simp only [Option.toList_some, List.append_nil]
          rw [u229_16, if_neg i1_0, u229_19, c220, if_neg hc]
          simp only [Option.toList_some, List.append_nil]
          rw [u229_26, if_neg (by decide), u229_29]
    · refine jb_CM (x := -1) (jq_C0 fun H st Q => ?_) (jq_M0 fun H st Q => ?_)
      · rw [en136, u136_0, c115, if_neg (fun g => hb g.2)]
        simp only [Option.toList_some, List.append_nil]
        rw [u136_8, if_pos rfl, u136_21]
      · rw [en229, u229_0, c220, if_pos h]
        simp only [Option.toList_some, List.append_nil]
        rw [u229_6, if_neg i1_0, u229_9, c220, if_neg hb]
        simp only [Option.toList_some, List.append_nil]
        rw [u229_16, if_pos rfl, u229_29]
  · refine jb_CM (x := -1) (jq_C0 fun H st Q => ?_) (jq_M0 fun H st Q => ?_)
    · rw [en136, u136_0, c115, if_neg (fun g => h g.1)]
      simp only [Option.toList_some, List.append_nil]
      rw [u136_8, if_pos rfl, u136_21]
    · rw [en229, u229_0, c220, if_neg h]
      simp only [Option.toList_some, List.append_nil]
      rw [u229_6, if_pos rfl, u229_29]
theorem jb_h20 (n w a k : Int32) : ∃ ans : Int32, jq_C 141 [.int n, .int w, .int a, .int k] (.int ans) ∧ jq_M 243 [.int n, .int w, .int a, .int k] (.int ans) := by
  by_cases h : jr_row n w a
  · by_cases hk : 0 ≤ k.toInt ∧ k.toInt ≤ 50
    · obtain ⟨N, W, A, h1, h2, hw, hA, rfl, rfl, rfl⟩ := jr_row_of h
      obtain ⟨K, hK, rfl⟩ := ji_nn (x := k) (k := 51) hk.1 (by omega)
      exact jb_CM (C141 h1 h2 hw hA (by omega)) (M243 h1 h2 hw hA (by omega))
    · refine jb_CM (x := -1) (jq_C0 fun H st Q => ?_) (jq_M0 fun H st Q => ?_)
      · rw [en141, u141_0, c99, if_pos h]
        simp only [Option.toList_some, List.append_nil]
        rw [u141_6, if_neg i1_0, u141_9, u141_14, u141_21]
        simp only [Int32.lt_iff_toInt_lt, Int32.le_iff_toInt_le, i32_0, i32_50]
        by_cases h2 : k.toInt < 0
        · rw [if_pos h2]
        · rw [if_neg h2, if_neg (fun h3 => hk ⟨by omega, h3⟩)]
      · rw [en243, u243_0, c220, if_pos h]
        simp only [Option.toList_some, List.append_nil]
        rw [u243_6, if_neg i1_0, u243_9, c176, i32_0, i32_50, if_neg hk]
        simp only [Option.toList_some, List.append_nil]
        rw [u243_17, if_neg (by decide), u243_20]
  · refine jb_CM (x := -1) (jq_C0 fun H st Q => ?_) (jq_M0 fun H st Q => ?_)
    · rw [en141, u141_0, c99, if_neg h]
      simp only [Option.toList_some, List.append_nil]
      rw [u141_6, if_pos rfl, u141_21]
    · rw [en243, u243_0, c220, if_neg h]
      simp only [Option.toList_some, List.append_nil]
      rw [u243_6, if_pos rfl, u243_20]
theorem jb_h18 (n w a x k : Int32) : ∃ ans : Int32, jq_C 138 [.int n, .int w, .int a, .int x, .int k] (.int ans) ∧ jq_M 241 [.int n, .int w, .int a, .int x, .int k] (.int ans) := by
  by_cases h : jr_row n w a
  · by_cases hx : jr_row n w x
    · by_cases hk : 0 ≤ k.toInt ∧ k.toInt ≤ 2
      · obtain ⟨N, W, A, h1, h2, hw, hA, rfl, rfl, rfl⟩ := jr_row_of h
        obtain ⟨X, hX, rfl⟩ := jr_arg h2 hx
        obtain ⟨K, hK, rfl⟩ := ji_nn (x := k) (k := 3) hk.1 (by omega)
        exact jb_CM (C138 h1 h2 hw hA hX hK) (M241 h1 h2 hw hA hX hK)
      · refine jb_CM (x := -1) (jq_C0 fun H st Q => ?_) (jq_M0 fun H st Q => ?_)
        · rw [en138, u138_0, c115, if_pos ⟨h, hx⟩]
          simp only [Option.toList_some, List.append_nil]
          rw [u138_8, if_neg i1_0, u138_11, u138_16, u138_22]
          simp only [Int32.lt_iff_toInt_lt, Int32.le_iff_toInt_le, i32_0, i32_2]
          by_cases h2 : k.toInt < 0
          · rw [if_pos h2]
          · rw [if_neg h2, if_neg (fun h3 => hk ⟨by omega, h3⟩)]
        · rw [en241, u241_0, c220, if_pos h]
          simp only [Option.toList_some, List.append_nil]
          rw [u241_6, if_neg i1_0, u241_9, c220, if_pos hx]
          simp only [Option.toList_some, List.append_nil]
          rw [u241_16, if_neg i1_0, u241_19, c176, i32_0, i32_2, if_neg hk]
          simp only [Option.toList_some, List.append_nil]
          rw [u241_26, if_neg (by decide), u241_29]
    · refine jb_CM (x := -1) (jq_C0 fun H st Q => ?_) (jq_M0 fun H st Q => ?_)
      · rw [en138, u138_0, c115, if_neg (fun g => hx g.2)]
        simp only [Option.toList_some, List.append_nil]
        rw [u138_8, if_pos rfl, u138_22]
      · rw [en241, u241_0, c220, if_pos h]
        simp only [Option.toList_some, List.append_nil]
        rw [u241_6, if_neg i1_0, u241_9, c220, if_neg hx]
        simp only [Option.toList_some, List.append_nil]
        rw [u241_16, if_pos rfl, u241_29]
  · refine jb_CM (x := -1) (jq_C0 fun H st Q => ?_) (jq_M0 fun H st Q => ?_)
    · rw [en138, u138_0, c115, if_neg (fun g => h g.1)]
      simp only [Option.toList_some, List.append_nil]
      rw [u138_8, if_pos rfl, u138_22]
    · rw [en241, u241_0, c220, if_neg h]
      simp only [Option.toList_some, List.append_nil]
      rw [u241_6, if_pos rfl, u241_29]
theorem jb_h8 (n w a k : Int32) : ∃ ans : Int32, jq_C 107 [.int n, .int w, .int a, .int k] (.int ans) ∧ jq_M 233 [.int n, .int w, .int a, .int k] (.int ans) := by
  by_cases h : jr_row n w a
  · by_cases hk : 0 ≤ k.toInt ∧ k.toInt ≤ 11
    · obtain ⟨N, W, A, h1, h2, hw, hA, rfl, rfl, rfl⟩ := jr_row_of h
      obtain ⟨K, hK, rfl⟩ := ji_nn (x := k) (k := 12) hk.1 (by omega)
      exact jb_CM (C107 h1 h2 hw hA hK) (M233 h1 h2 hw hA hK)
    · refine jb_CM (x := -100000) (jq_C0 fun H st Q => ?_) (jq_M0 fun H st Q => ?_)
      · rw [en107, u107_0, c99, if_pos h]
        simp only [Option.toList_some, List.append_nil]
        rw [u107_6, if_neg i1_0, u107_9, u107_14, u107_21]
        simp only [Int32.lt_iff_toInt_lt, Int32.le_iff_toInt_le, i32_0, i32_11]
        by_cases h2 : k.toInt < 0
        · rw [if_pos h2]
        · rw [if_neg h2, if_neg (fun h3 => hk ⟨by omega, h3⟩)]
      · rw [en233, u233_0, c220, if_pos h]
        simp only [Option.toList_some, List.append_nil]
        rw [u233_6, if_neg i1_0, u233_9, c176, i32_0, i32_11, if_neg hk]
        simp only [Option.toList_some, List.append_nil]
        rw [u233_17, if_neg (by decide), u233_20]
  · refine jb_CM (x := -100000) (jq_C0 fun H st Q => ?_) (jq_M0 fun H st Q => ?_)
    · rw [en107, u107_0, c99, if_neg h]
      simp only [Option.toList_some, List.append_nil]
      rw [u107_6, if_pos rfl, u107_21]
    · rw [en233, u233_0, c220, if_neg h]
      simp only [Option.toList_some, List.append_nil]
      rw [u233_6, if_pos rfl, u233_20]
theorem jb_h17 (n w a i : Int32) : ∃ ans : Int32, jq_C 118 [.int n, .int w, .int a, .int i] (.int ans) ∧ jq_M 237 [.int n, .int w, .int a, .int i] (.int ans) := by
  by_cases h : jr_row n w a
  · obtain ⟨N, W, A, h1, h2, hw, hA, rfl, rfl, rfl⟩ := jr_row_of h
    exact jb_CM (C118 h1 h2 hw hA) (M237 h1 h2 hw hA)
  · refine jb_CM (x := -1) (jq_C0 fun H st Q => ?_) (jq_M0 fun H st Q => ?_)
    · rw [en118, u118_0, c99, if_neg h]
      simp only [Option.toList_some, List.append_nil]
      rw [u118_6, if_neg (by decide), u118_9]
    · rw [en237, u237_0, c220, if_neg h]
      simp only [Option.toList_some, List.append_nil]
      rw [u237_6, if_neg (by decide), u237_9]
theorem jb_h21 (n w a q k : Int32) : ∃ ans : Int64, jq_C 123 [.int n, .int w, .int a, .int q, .int k] (.long ans) ∧ jq_M 244 [.int n, .int w, .int a, .int q, .int k] (.long ans) := by
  have i1 : (1 : Int32).toInt = 1 := by decide
  have i1000 : (1000 : Int32).toInt = 1000 := by decide
  by_cases hr : jr_row n w a
  · obtain ⟨N, W, A, h1, h2, hw, hA, rfl, rfl, rfl⟩ := jr_row_of hr
    have hp := p2_12 h2
    by_cases hn : A = 2 ^ (N - 1)
    · refine jbL_CM (x := -1000000000000000) (jq_C0 fun H st Q => ?_) (jq_M0 fun H st Q => ?_)
      · rw [en123, u123_0, c99, if_pos hr]
        simp only [Option.toList_some, List.append_nil]
        rw [u123_6, if_neg i1_0, u123_9, c69 (by omega) (by omega) (by omega), if_pos hn]
        simp only [Option.toList_some, List.append_nil]
        rw [u123_14, if_pos i1_0, u123_42]
      · rw [en244, u244_0, c220, if_pos hr]
        simp only [Option.toList_some, List.append_nil]
        rw [u244_6, if_neg i1_0, u244_9, c204 (by omega) (by omega) (by omega), if_pos hn]
        simp only [Option.toList_some, List.append_nil]
        rw [u244_14, if_pos i1_0, u244_39]
    · by_cases hq : 1 ≤ q.toInt ∧ q.toInt ≤ 1000
      · by_cases hk : 0 ≤ k.toInt ∧ k.toInt ≤ 1
        · obtain ⟨q', hq', rfl⟩ := ji_nn (x := q) (k := 1001) (by omega) (by omega)
          obtain ⟨K, hK, rfl⟩ := ji_nn (x := k) (k := 2) hk.1 (by omega)
          rw [nI_toInt (by omega)] at hq
          exact jbL_CM (C123 h1 h2 hw hA hn (by omega) (by omega) hK) (M244 h1 h2 hw hA hn (by omega) (by omega) hK)
        · refine jbL_CM (x := -1000000000000000) (jq_C0 fun H st Q => ?_) (jq_M0 fun H st Q => ?_)
          · rw [en123, u123_0, c99, if_pos hr]
            simp only [Option.toList_some, List.append_nil]
            rw [u123_6, if_neg i1_0, u123_9, c69 (by omega) (by omega) (by omega), if_neg hn]
            simp only [Option.toList_some, List.append_nil]
            rw [u123_14, if_neg (fun g => g rfl), u123_17, u123_23, u123_31, u123_36, u123_42]
            simp only [Int32.lt_iff_toInt_lt, Int32.le_iff_toInt_le, i32_0, i1, i1000]
            rw [if_neg (by omega), if_neg (by omega)]
            by_cases h2 : k.toInt < 0
            · rw [if_pos h2]
            · rw [if_neg h2, if_neg (fun h3 => hk ⟨by omega, h3⟩)]
          · rw [en244, u244_0, c220, if_pos hr]
            simp only [Option.toList_some, List.append_nil]
            rw [u244_6, if_neg i1_0, u244_9, c204 (by omega) (by omega) (by omega), if_neg hn]
            simp only [Option.toList_some, List.append_nil]
            rw [u244_14, if_neg (fun g => g rfl), u244_17, c176, i1, i1000, if_pos hq]
            simp only [Option.toList_some, List.append_nil]
            rw [u244_26, if_neg i1_0, u244_29, c176, i1, i32_0, if_neg hk]
            simp only [Option.toList_some, List.append_nil]
            rw [u244_36, if_neg (fun g => g rfl), u244_39]
      · refine jbL_CM (x := -1000000000000000) (jq_C0 fun H st Q => ?_) (jq_M0 fun H st Q => ?_)
        · rw [en123, u123_0, c99, if_pos hr]
          simp only [Option.toList_some, List.append_nil]
          rw [u123_6, if_neg i1_0, u123_9, c69 (by omega) (by omega) (by omega), if_neg hn]
          simp only [Option.toList_some, List.append_nil]
          rw [u123_14, if_neg (fun g => g rfl), u123_17, u123_23, u123_42]
          simp only [Int32.lt_iff_toInt_lt, Int32.le_iff_toInt_le, i32_0, i1, i1000]
          by_cases h2 : q.toInt < 1
          · rw [if_pos h2]
          · rw [if_neg h2, if_pos (by omega)]
        · rw [en244, u244_0, c220, if_pos hr]
          simp only [Option.toList_some, List.append_nil]
          rw [u244_6, if_neg i1_0, u244_9, c204 (by omega) (by omega) (by omega), if_neg hn]
          simp only [Option.toList_some, List.append_nil]
          rw [u244_14, if_neg (fun g => g rfl), u244_17, c176, i1, i1000, if_neg hq]
          simp only [Option.toList_some, List.append_nil]
          rw [u244_26, if_pos rfl, u244_39]
  · refine jbL_CM (x := -1000000000000000) (jq_C0 fun H st Q => ?_) (jq_M0 fun H st Q => ?_)
    · rw [en123, u123_0, c99, if_neg hr]
      simp only [Option.toList_some, List.append_nil]
      rw [u123_6, if_pos rfl, u123_42]
    · rw [en244, u244_0, c220, if_neg hr]
      simp only [Option.toList_some, List.append_nil]
      rw [u244_6, if_pos rfl, u244_39]
theorem jb_h14 (n w a b : Int32) : ∃ ans : Int32, jq_C 114 [.int n, .int w, .int a, .int b] (.int ans) ∧ jq_M 230 [.int n, .int w, .int a, .int b] (.int ans) := by
  by_cases hr : jr_row n w a ∧ jr_row n w b
  · obtain ⟨N, W, A, g1, g2, g3, g4, rfl, rfl, rfl⟩ := jr_row_of hr.1
    obtain ⟨B, g5, rfl⟩ := jr_arg g2 hr.2
    have hp := p2_12 g2
    have oA := jf_ord_b (by omega) g2 g4
    have oB := jf_ord_b (by omega) g2 g5
    refine jb_CM (x := (jI (if jf_ord N A < jf_ord N B then -1 else if jf_ord N A = jf_ord N B then 0 else 1))) (jq_C0 fun H st Q => ?_) (jq_M0 fun H st Q => ?_)
    · rw [en114, u114_0, c115, if_pos hr]
      simp only [Option.toList_some, List.append_nil, List.cons_append, List.nil_append]
      rw [u114_8, if_pos i1_0, u114_14, c108 (by omega) g2 g4]
      simp only [Option.toList_some, List.append_nil, List.cons_append, List.nil_append]
      rw [u114_19, c108 (by omega) g2 g5]
      simp only [Option.toList_some, List.append_nil, List.cons_append, List.nil_append]
      rw [u114_25, c116 ⟨by omega, by omega⟩ ⟨by omega, by omega⟩]
      simp only [Option.toList_some, List.append_nil, List.cons_append, List.nil_append]
      rw [u114_28]
    · rw [en230, u230_0, c220, if_pos hr.1]
      simp only [Option.toList_some, List.append_nil, List.cons_append, List.nil_append]
      rw [u230_6, if_neg i1_0, u230_9, c220, if_pos hr.2]
      simp only [Option.toList_some, List.append_nil, List.cons_append, List.nil_append]
      rw [u230_16, if_pos i1_0, u230_22, c231 (by omega) g2 g4]
      simp only [Option.toList_some, List.append_nil, List.cons_append, List.nil_append]
      rw [u230_27, c231 (by omega) g2 g5]
      simp only [Option.toList_some, List.append_nil, List.cons_append, List.nil_append]
      rw [u230_35, u230_44, u230_48, u230_55, u230_59, u230_60, u230_60, u230_60]
      simp only [jI_le (show j3 (jf_ord N B) from ⟨by omega, by omega⟩) (show j3 (jf_ord N A) from ⟨by omega, by omega⟩), jI_le (show j3 (jf_ord N A) from ⟨by omega, by omega⟩) (show j3 (jf_ord N B) from ⟨by omega, by omega⟩)]
      by_cases h1 : jf_ord N A < jf_ord N B
      · rw [if_neg (by omega), if_pos h1] <;> rfl
      · rw [if_pos (by omega), if_neg h1]
        by_cases h2 : jf_ord N A = jf_ord N B
        · rw [if_pos (by omega), if_pos h2] <;> rfl
        · rw [if_neg (by omega), if_neg h2] <;> rfl
  · refine jb_CM (x := (-2)) (jq_C0 fun H st Q => ?_) (jq_M0 fun H st Q => ?_)
    · rw [en114, u114_0, c115, if_neg hr]
      simp only [Option.toList_some, List.append_nil, List.cons_append, List.nil_append]
      rw [u114_8, if_neg (by decide), u114_11]
    · rw [en230, u230_0, c220]
      simp only [Option.toList_some, List.append_nil, List.cons_append, List.nil_append]
      by_cases h1 : jr_row n w a
      · rw [if_pos h1, u230_6, if_neg i1_0, u230_9, c220, if_neg (fun h => hr ⟨h1, h⟩)]
        simp only [Option.toList_some, List.append_nil, List.cons_append, List.nil_append]
        rw [u230_16, if_neg (by decide), u230_19]
      · rw [if_neg h1, u230_6, if_pos rfl, u230_19]
theorem jb_h15 (n w a b : Int32) : ∃ ans : Int32, jq_C 117 [.int n, .int w, .int a, .int b] (.int ans) ∧ jq_M 232 [.int n, .int w, .int a, .int b] (.int ans) := by
  by_cases hr : jr_row n w a ∧ jr_row n w b
  · obtain ⟨N, W, A, g1, g2, g3, g4, rfl, rfl, rfl⟩ := jr_row_of hr.1
    obtain ⟨B, g5, rfl⟩ := jr_arg g2 hr.2
    have hp := p2_12 g2
    have oA := jf_ord_b (by omega) g2 g4
    have oB := jf_ord_b (by omega) g2 g5
    refine jb_CM (x := (if A = 2 ^ (N - 1) ∨ B = 2 ^ (N - 1) then -1 else jI (max 0 (jf_ord N B - jf_ord N A + 1)))) (jq_C0 fun H st Q => ?_) (jq_M0 fun H st Q => ?_)
    · rw [en117, u117_0, c115, if_pos hr]
      simp only [Option.toList_some, List.append_nil, List.cons_append, List.nil_append]
      rw [u117_8, if_neg i1_0, u117_11, c69 (by omega) (by omega) (by omega)]
      simp only [Option.toList_some, List.append_nil, List.cons_append, List.nil_append]
      rw [u117_16, u117_28]
      by_cases h1 : A = 2 ^ (N - 1)
      · rw [if_pos h1, if_pos i1_0, if_pos (Or.inl h1)] <;> rfl
      · rw [if_neg h1, if_neg (by decide), u117_19, c69 (by omega) (by omega) (by omega)]
        simp only [Option.toList_some, List.append_nil, List.cons_append, List.nil_append]
        rw [u117_25, u117_28]
        by_cases h2 : B = 2 ^ (N - 1)
        · rw [if_pos h2, if_neg i1_0, if_pos (Or.inr h2)] <;> rfl
        · rw [if_neg h2, if_pos rfl, if_neg (show ¬ (A = 2 ^ (N - 1) ∨ B = 2 ^ (N - 1)) by omega), u117_30, c108 (by omega) g2 g5]
          simp only [Option.toList_some, List.append_nil, List.cons_append, List.nil_append]
          rw [u117_37, c108 (by omega) g2 g4]
          simp only [Option.toList_some, List.append_nil, List.cons_append, List.nil_append]
          rw [u117_42, jI_sub, jI_1, jI_0, jI_add, c74 ⟨by omega, by omega⟩ ⟨by omega, by omega⟩]
          simp only [Option.toList_some, List.append_nil, List.cons_append, List.nil_append]
          rw [u117_48]
    · rw [en232, u232_0, c220, if_pos hr.1]
      simp only [Option.toList_some, List.append_nil, List.cons_append, List.nil_append]
      rw [u232_6, if_neg i1_0, u232_9, c220, if_pos hr.2]
      simp only [Option.toList_some, List.append_nil, List.cons_append, List.nil_append]
      rw [u232_16, if_neg i1_0, u232_19, c204 (by omega) (by omega) (by omega)]
      simp only [Option.toList_some, List.append_nil, List.cons_append, List.nil_append]
      rw [u232_24, u232_36]
      by_cases h1 : A = 2 ^ (N - 1)
      · rw [if_pos h1, if_pos i1_0, if_pos (Or.inl h1)] <;> rfl
      · rw [if_neg h1, if_neg (by decide), u232_27, c204 (by omega) (by omega) (by omega)]
        simp only [Option.toList_some, List.append_nil, List.cons_append, List.nil_append]
        rw [u232_33, u232_36]
        by_cases h2 : B = 2 ^ (N - 1)
        · rw [if_pos h2, if_neg i1_0, if_pos (Or.inr h2)] <;> rfl
        · rw [if_neg h2, if_pos rfl, if_neg (show ¬ (A = 2 ^ (N - 1) ∨ B = 2 ^ (N - 1)) by omega), u232_38, c231 (by omega) g2 g5]
          simp only [Option.toList_some, List.append_nil, List.cons_append, List.nil_append]
          rw [u232_44, c231 (by omega) g2 g4]
          simp only [Option.toList_some, List.append_nil, List.cons_append, List.nil_append]
          rw [u232_49, jI_sub, jI_1, jI_0, jI_add, u232_59, u232_63, u232_65, u232_65]
          simp only [jI_le (show j3 0 by decide) (show j3 (jf_ord N B - jf_ord N A + 1) from ⟨by omega, by omega⟩)]
          by_cases h3 : 0 ≤ jf_ord N B - jf_ord N A + 1
          · rw [if_pos h3, show max 0 (jf_ord N B - jf_ord N A + 1) = jf_ord N B - jf_ord N A + 1 by omega] <;> rfl
          · rw [if_neg h3, show max 0 (jf_ord N B - jf_ord N A + 1) = 0 by omega] <;> rfl
  · refine jb_CM (x := (-1)) (jq_C0 fun H st Q => ?_) (jq_M0 fun H st Q => ?_)
    · rw [en117, u117_0, c115, if_neg hr]
      simp only [Option.toList_some, List.append_nil, List.cons_append, List.nil_append]
      rw [u117_8, if_pos rfl, u117_28]
    · rw [en232, u232_0, c220]
      simp only [Option.toList_some, List.append_nil, List.cons_append, List.nil_append]
      by_cases h1 : jr_row n w a
      · rw [if_pos h1, u232_6, if_neg i1_0, u232_9, c220, if_neg (fun h => hr ⟨h1, h⟩)]
        simp only [Option.toList_some, List.append_nil, List.cons_append, List.nil_append]
        rw [u232_16, if_pos rfl, u232_36]
      · rw [if_neg h1, u232_6, if_pos rfl, u232_36]
