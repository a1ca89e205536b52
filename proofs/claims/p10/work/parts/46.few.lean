set_option maxRecDepth 20000
/-! cases of the law with few arguments that matter: the kernel runs them -/
theorem jl_few27 : ∀ k, k < 11 → jl_okB 3000 149 250 [.int (nI k)] = true := by decide +kernel
theorem jl_few25 : ∀ k, k < 3 → jl_okB 5000 104 214 [.int (nI k)] = true := by decide +kernel
theorem jl_few26 : ∀ k, k < 3 → jl_okB 1000 106 215 [.int (nI k)] = true := by decide +kernel
theorem jl_few1 : jl_okB 1000 15 159 [.int 0] = true := by decide +kernel
theorem ji_nn {x : Int32} {k : Nat} (h0 : 0 ≤ x.toInt) (h1 : x.toInt < k) : ∃ m, m < k ∧ x = nI m := ⟨x.toInt.toNat, by omega, by rw [jI_n, Int.toNat_of_nonneg h0]; exact jI_of x⟩
theorem jl_h27 (x : Int32) : jl_ok 149 250 [.int x] := by
  by_cases h : x.toInt < 0 ∨ 10 < x.toInt
  · refine jl_ok_pure (-1) ?_ ?_
    · rw [en149, u149_0, u149_1_d h, u149_206]; first | exact ⟨rfl, rfl⟩ | exact ⟨trivial, trivial⟩
    · rw [en250, u250_0, u250_1_d h, u250_206]; first | exact ⟨rfl, jl_loG⟩ | exact ⟨trivial, jl_loG⟩
  · obtain ⟨m, hm, rfl⟩ := ji_nn (x := x) (k := 11) (by omega) (by omega)
    exact jl_ok_of (jl_few27 m hm)
theorem jl_h1 (x : Int32) : jl_ok 15 159 [.int x] := by
  have s := jm_G_st
  have f := jm_G_fresh
  have r4 : jm_R jm_G 2 0 = 4 := st_r2_0 s
  have i4 : jm_I jm_G 4 1 = 0 := fr_i4_1 f
  have im : jm_I jm_G 180 2 = 0 := fr_i180_2 f
  by_cases h0 : x = 0
  · subst h0; exact jl_ok_of jl_few1
  · have h0' : ¬ x.toInt = 0 := fun h => h0 (by rw [jI_of x, h]; rfl)
    refine jl_ok_pure (-1) ?_ ?_
    · rw [en15, u15_0, u15_4 (st_t2 s) (by rw [r4]; decide) (by rw [r4]; exact st_t4 s), u15_15, r4, i4]
      simp only [Int32.lt_iff_toInt_lt, Int32.le_iff_toInt_le, i32_0]
      by_cases h1 : x.toInt < 0
      · rw [if_pos h1]; first | exact ⟨rfl, rfl⟩ | exact ⟨trivial, trivial⟩
      · rw [if_neg h1, if_neg (by omega)]; first | exact ⟨rfl, rfl⟩ | exact ⟨trivial, trivial⟩
    · rw [en159, u159_0, u159_4 (st_t180 s), u159_12, im]
      simp only [Int32.lt_iff_toInt_lt, Int32.le_iff_toInt_le, i32_0]
      by_cases h1 : x.toInt < 0
      · rw [if_pos h1]; first | exact ⟨rfl, jl_loG⟩ | exact ⟨trivial, jl_loG⟩
      · rw [if_neg h1, if_neg (by omega)]; first | exact ⟨rfl, jl_loG⟩ | exact ⟨trivial, jl_loG⟩
theorem i32_100 : (100 : Int32).toInt = 100 := by decide
theorem i32_m100 : (-100 : Int32).toInt = -100 := by decide
theorem jr_sz_few {n w : Int32} (h : jr_sz n w) : ∃ N W, N < 10 ∧ W < 3 ∧ n = nI (N + 3) ∧ w = nI W := by
  obtain ⟨N, W, h1, h2, h3, h4, h5⟩ := jr_sz_of h
  exact ⟨N - 3, W, by omega, by omega, by rw [h4, Nat.sub_add_cancel h1], h5⟩
theorem jl_h24 (i q : Int32) : jl_ok 148 249 [.int i, .int q] := by
  have s := jm_G_st
  have f := jm_G_fresh
  have r13 : jm_R jm_G 2 13 = 177 := f.2.2.1
  have i3 : jm_I jm_G 177 3 = 0 := fr_i177_3 f
  have im : jm_I jm_G 180 25 = 0 := fr_i180_25 f
  refine jl_ok_pure (-100000) ?_ ?_
  · rw [en148, u148_0, u148_4 (st_t2 s) (by rw [r13]; decide) (by rw [r13]; exact st_t177 s), u148_33, r13, i3]
    simp only [Int32.lt_iff_toInt_lt, Int32.le_iff_toInt_le, i32_0]
    by_cases h1 : i.toInt < 0
    · rw [if_pos h1]; first | exact ⟨rfl, rfl⟩ | exact ⟨trivial, trivial⟩
    · rw [if_neg h1, if_pos (by omega)]; first | exact ⟨rfl, rfl⟩ | exact ⟨trivial, trivial⟩
  · rw [en249, u249_0 (st_t180 s), c176, im, if_neg (by
      have e : ((0 : Int32) - 1).toInt = -1 := by decide
      rw [e, i32_0]
      omega)]
    simp only [Option.toList_some, List.append_nil]
    rw [u249_11, if_pos rfl, u249_23]
    first | exact ⟨rfl, jl_loG⟩ | exact ⟨trivial, jl_loG⟩
theorem jl_h25 (x : Int32) : jl_ok 104 214 [.int x] := by
  have s := jm_G_st
  have r9 : jm_R jm_G 2 9 = 155 := st_r2_9 s
  by_cases h : 0 ≤ x.toInt ∧ x.toInt < 3
  · obtain ⟨m, hm, rfl⟩ := ji_nn (x := x) (k := 3) h.1 h.2
    exact jl_ok_of (jl_few25 m hm)
  · refine jl_ok_pure 0 ?_ ?_
    · rw [en104, u104_0, u104_4 (st_t2 s) (by rw [r9]; decide) (by rw [r9]; decide) (by rw [r9, st_t155 s]; decide), u104_13, r9, st_l155 s]
      have e3 : (Int32.ofNat 3).toInt = 3 := by decide
      simp only [Int32.lt_iff_toInt_lt, i32_0, e3]
      by_cases h1 : x.toInt < 0
      · rw [if_pos h1]; first | exact ⟨rfl, rfl⟩ | exact ⟨trivial, trivial⟩
      · rw [if_neg h1, if_neg (by omega)]; first | exact ⟨rfl, rfl⟩ | exact ⟨trivial, trivial⟩
    · rw [en214, u214_0, c176, i32_0, i32_2, if_neg (by omega)]
      simp only [Option.toList_some, List.append_nil]
      rw [u214_6, if_neg (by decide), u214_9]
      first | exact ⟨rfl, jl_loG⟩ | exact ⟨trivial, jl_loG⟩
theorem jl_h26 (x : Int32) : jl_ok 106 215 [.int x] := by
  have s := jm_G_st
  have r9 : jm_R jm_G 2 9 = 155 := st_r2_9 s
  by_cases h : 0 ≤ x.toInt ∧ x.toInt < 3
  · obtain ⟨m, hm, rfl⟩ := ji_nn (x := x) (k := 3) h.1 h.2
    exact jl_ok_of (jl_few26 m hm)
  · refine jl_ok_pure 0 ?_ ?_
    · rw [en106, u106_0, u106_4 (st_t2 s) (by rw [r9]; decide) (by rw [r9]; decide) (by rw [r9, st_t155 s]; decide), u106_25, r9, st_l155 s]
      have e3 : (Int32.ofNat 3).toInt = 3 := by decide
      simp only [Int32.lt_iff_toInt_lt, Int32.le_iff_toInt_le, i32_0, e3]
      by_cases h1 : x.toInt < 0
      · rw [if_pos h1]; first | exact ⟨rfl, rfl⟩ | exact ⟨trivial, trivial⟩
      · rw [if_neg h1, if_pos (by omega)]; first | exact ⟨rfl, rfl⟩ | exact ⟨trivial, trivial⟩
    · rw [en215, u215_0, c176, i32_0, i32_2, if_neg (by omega)]
      simp only [Option.toList_some, List.append_nil]
      rw [u215_6, if_pos rfl, u215_18]
      first | exact ⟨rfl, jl_loG⟩ | exact ⟨trivial, jl_loG⟩
