set_option maxRecDepth 20000
/-! cases of the law with few arguments that matter: the kernel runs them -/
theorem ji_nn {x : Int32} {k : Nat} (h0 : 0 ≤ x.toInt) (h1 : x.toInt < k) : ∃ m, m < k ∧ x = nI m := ⟨x.toInt.toNat, by omega, by rw [jI_n, Int.toNat_of_nonneg h0]; exact jI_of x⟩
theorem i32_100 : (100 : Int32).toInt = 100 := by decide
theorem i32_m100 : (-100 : Int32).toInt = -100 := by decide
theorem jr_sz_few {n w : Int32} (h : jr_sz n w) : ∃ N W, N < 10 ∧ W < 3 ∧ n = nI (N + 3) ∧ w = nI W := by
  obtain ⟨N, W, h1, h2, h3, h4, h5⟩ := jr_sz_of h
  exact ⟨N - 3, W, by omega, by omega, by rw [h4, Nat.sub_add_cancel h1], h5⟩
