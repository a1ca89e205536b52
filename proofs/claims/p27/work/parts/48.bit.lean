set_option maxRecDepth 20000
/-! the store's bits, on fresh objects -/
theorem jl_n188 : ∀ k, k < 20 → 2 ≤ k → jm_I jm_G 188 k = 0 := of_decide_eq_true ((Bool.and_eq_true _ _).mp (((Bool.and_eq_true _ _).mp (((Bool.and_eq_true _ _).mp (((Bool.and_eq_true _ _).mp jm_gx).2)).2)).2)).1
theorem jl_w33 : ∀ k, k < 7 → jm_L jm_G 33 k = 0 := of_decide_eq_true ((Bool.and_eq_true _ _).mp (((Bool.and_eq_true _ _).mp (((Bool.and_eq_true _ _).mp (((Bool.and_eq_true _ _).mp (((Bool.and_eq_true _ _).mp jm_gx).2)).2)).2)).2)).1
theorem ji_lit {n : Int} {a : Int32} (h : a.toInt = n) : a = jI n := by rw [← h]; exact jI_of a
theorem l64_0shr (s : Int64) : ((0 : Int64) >>> s) &&& 1 = 0 := by
  rw [← Int64.toBitVec_inj]
  simp
theorem i32_0shr (s : Int32) : ((0 : Int32) >>> s) &&& 1 = 0 := by
  rw [← Int32.toBitVec_inj]
  simp
