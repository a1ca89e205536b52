set_option maxRecDepth 20000
/-! cases of the law: numbers alone, and such as the kernel runs for each of few arguments -/
theorem jl_ok_pure {ci mi : Nat} {as : List Value} (x : Int32) (hc : jm_c none ci (.ref 2 :: as) jm_G (fun v G => v = some (.int x) ∧ G = jm_G)) (hm : jm_c none mi (.ref 180 :: as) jm_G (fun v G => v = some (.int x) ∧ jl_lo G)) : jl_ok ci mi as := by
  refine ⟨x, jm_c_mono hc ?_⟩
  rintro v G ⟨h1, rfl⟩
  exact ⟨h1, jl_lo_st jm_G_st, hm⟩
theorem jl_loG : jl_lo jm_G := jl_lo_st jm_G_st
theorem jr_arg {N : Nat} {w b : Int32} (hN : N ≤ 12) (h : jr_row (nI N) w b) : ∃ B, B < 2 ^ N ∧ b = nI B := by
  have hp := p2_12 hN
  refine ⟨b.toInt.toNat, ?_, ?_⟩
  · have h1 := h.2.2
    have e : (2 : Int) ^ (nI N).toInt.toNat = ((2 ^ N : Nat) : Int) := by
      rw [nI_toInt (by omega)]
      simp
    rw [e] at h1
    have := h.2.1
    omega
  · rw [jI_n, Int.toNat_of_nonneg h.2.1]; exact jI_of b
theorem i1_0 : ¬ (1 : Int32) = 0 := by decide
theorem i1_0n : ¬ ¬ ¬ (1 : Int32) = 0 := by decide
theorem jf_ord_b {N A : Nat} (h1 : 1 ≤ N) (h2 : N ≤ 12) (hA : A < 2 ^ N) : -2048 ≤ jf_ord N A ∧ jf_ord N A < 2048 := by
  have hp := p2_12 h2
  have hh := p2_half h1
  unfold jf_ord
  split <;> omega
