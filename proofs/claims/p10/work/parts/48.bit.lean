set_option maxRecDepth 20000
/-! the store's bits, on fresh objects -/
theorem jl_n188 : ∀ k, k < 20 → 2 ≤ k → jm_I jm_G 188 k = 0 := by decide +kernel
theorem jl_w33 : ∀ k, k < 7 → jm_L jm_G 33 k = 0 := by decide +kernel
theorem ji_lit {n : Int} {a : Int32} (h : a.toInt = n) : a = jI n := by rw [← h]; exact jI_of a
theorem l64_0shr (s : Int64) : ((0 : Int64) >>> s) &&& 1 = 0 := by
  rw [← Int64.toBitVec_inj]
  simp
theorem i32_0shr (s : Int32) : ((0 : Int32) >>> s) &&& 1 = 0 := by
  rw [← Int32.toBitVec_inj]
  simp
theorem jl_h19 (x : Int32) : jl_ok 145 246 [.int x] := by
  have s := jm_G_st
  have f := jm_G_fresh
  by_cases h : -100 ≤ x.toInt ∧ x.toInt ≤ 100
  · obtain ⟨z, hz, rfl⟩ : ∃ z : Int, (-100 ≤ z ∧ z ≤ 100) ∧ x = jI z := ⟨x.toInt, h, jI_of x⟩
    have r7 := st_r2_7 s
    have r31 := st_r31_0 s
    have r32 := st_r32_0 s
    have n0 : jm_I jm_G 32 2 = 0 := fr_i32_2 f
    refine jl_ok_pure 0 ?_ ?_
    · have e96 : jI z - (-96 : Int32) = jI (z + 96) := by
        rw [show (-96 : Int32) = jI (-96) from by decide, jI_sub]
        congr 1
      rw [en145, u145_0, u145_6, u145_14 (st_t2 s) (by rw [r7]; decide) (by rw [r7]; exact st_t31 s) (by rw [r7, r31]; decide) (by rw [r7, r31]; exact st_t32 s), r7, r31, n0]
      rw [if_neg (by rw [Int32.lt_iff_toInt_lt, i32_m100, jI_t ⟨by omega, by omega⟩]; omega), if_pos (by rw [Int32.le_iff_toInt_le, i32_100, jI_t ⟨by omega, by omega⟩]; omega), if_pos rfl]
      rw [u145_32 (st_t2 s) (by rw [r7]; decide) (by rw [r7]; exact st_t31 s) (by rw [r7, r31]; decide) (by rw [r7, r31]; exact st_t32 s), r7, r31, en146, u146_0 (st_t32 s), e96, en85, u85_0, u85_16, u85_4 (st_t32 s) (by rw [r32]; decide) (by rw [r32]; decide) (by rw [r32, st_t33 s]; decide), u85_16, r32, st_l33 s]
      have goal : ∀ v : Int32, v = 0 → (fun v G => v = some (Value.int 0) ∧ G = jm_G) (some (Value.int v)) jm_G := fun v hv => ⟨by rw [hv], rfl⟩
      have fin : ∀ v : Int32, v = 0 → jm_w none 2 146 8 [.ref 32, .int (jI z)] ((some (Value.int v)).toList ++ []) jm_G (fun v G => jm_w none 3 145 43 [.ref 2, .int (jI z)] (v.toList ++ []) G (fun v G => v = some (Value.int 0) ∧ G = jm_G)) := by
        intro v hv
        simp only [Option.toList_some, List.append_nil]
        rw [u146_8]
        simp only [Option.toList_some, List.append_nil]
        rw [u145_43, hv]
        exact ⟨rfl, rfl⟩
      by_cases h1 : z + 96 < 0
      · rw [if_pos (by rw [Int32.lt_iff_toInt_lt, jI_t ⟨by omega, by omega⟩, i32_0]; exact h1)]
        exact fin 0 rfl
      · obtain ⟨p, hp, ep⟩ : ∃ p : Nat, p < 197 ∧ z + 96 = (p : Int) := ⟨(z + 96).toNat, by omega, by omega⟩
        have e5 : jI (z + 96) >>> ((5 : Int32) &&& 31) = nI (p / 32) := by
          rw [ep, ← jI_n, show (5 : Int32) = nI 5 from rfl, nI_shr (by omega) (by decide)]
        rw [if_neg (by rw [Int32.lt_iff_toInt_lt, jI_t ⟨by omega, by omega⟩, i32_0]; exact h1), if_pos (by
          rw [Int32.lt_iff_toInt_lt, jI_t ⟨by omega, by omega⟩]
          have : (Int32.ofNat 7 * 32).toInt = 224 := by decide
          rw [this]
          omega)]
        rw [u85_18 (st_t32 s) (by rw [r32]; decide) (by rw [r32, e5, st_l33 s]; exact nI_inK (by omega) (by decide)) (by rw [r32]; exact st_t33 s), r32, e5, nI_cl (by omega), jl_w33 _ (by omega), l64_0shr]
        exact fin _ rfl
    · obtain ⟨p, hp, ep⟩ : ∃ p : Nat, (12 ≤ p ∧ p ≤ 212) ∧ z + 112 = (p : Int) := ⟨(z + 112).toNat, by omega, by omega⟩
      have e112 : jI z + (112 : Int32) = nI p := by
        rw [show (112 : Int32) = jI 112 from by decide, jI_add, ep, ← jI_n]
      have r17 := st_r180_17 s
      have ed : (4 : Int32) + nI p / (16 : Int32) = nI (4 + p / 16) := by
        rw [jI_n, show (16 : Int32) = jI 16 from by decide, jI_d ⟨by omega, by omega⟩ (by omega) (by decide) (by decide), show (4 : Int32) = jI 4 from by decide, jI_add, jI_n]
        congr 1
      have i3 : jm_I jm_G 188 3 = 0 := fr_i188_3 f
      have c3 : Int32.toNatClampNeg (3 : Int32) = 3 := by decide
      rw [en246, u246_0, c176, i32_100, i32_m100, if_pos (by rw [jI_t ⟨by omega, by omega⟩]; exact hz)]
      simp only [Option.toList_some, List.append_nil]
      rw [u246_8, if_pos (by decide), u246_13 (st_t180 s) (by rw [r17]; decide) (by rw [r17, st_l188 s]; decide) (by rw [r17]; decide) (by rw [r17]; exact st_t188 s), r17, c3, i3, if_pos (by decide)]
      rw [u246_26 (st_t180 s) (by rw [r17]; decide) (by rw [r17, st_l188 s, e112, ed]; exact nI_inK (by omega) (by decide)) (by rw [r17]; decide) (by rw [r17]; exact st_t188 s), r17, e112, ed, nI_cl (by omega), jl_n188 _ (by omega) (by omega), i32_0shr]
      exact ⟨rfl, jl_loG⟩
  · refine jl_ok_pure (-1) ?_ ?_
    · rw [en145, u145_0, u145_6, u145_12]
      simp only [Int32.lt_iff_toInt_lt, Int32.le_iff_toInt_le, i32_100, i32_m100]
      by_cases h1 : x.toInt < -100
      · rw [if_pos h1]; first | exact ⟨rfl, rfl⟩ | exact ⟨trivial, trivial⟩
      · rw [if_neg h1, if_neg (by omega)]; first | exact ⟨rfl, rfl⟩ | exact ⟨trivial, trivial⟩
    · rw [en246, u246_0, c176, i32_100, i32_m100, if_neg h]
      simp only [Option.toList_some, List.append_nil]
      rw [u246_8, if_neg (by decide), u246_11]
      exact ⟨rfl, jl_loG⟩
