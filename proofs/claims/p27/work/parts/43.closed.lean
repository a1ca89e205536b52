set_option maxRecDepth 20000
/-! cases of the law that the kernel runs, and such as end at their first question -/
def jl_lob (H : jm_H) : Bool := decide (jm_tg H 180 = 13) && decide (jm_n H = 207) && decide (jm_s H ≤ 100000)
theorem jl_lob_ok {H : jm_H} (h : jl_lob H = true) : jl_lo H := by
  unfold jl_lob at h
  simp only [Bool.and_eq_true, decide_eq_true_eq] at h
  exact ⟨h.1.1, h.1.2, h.2⟩
def jl_okB (F ci mi : Nat) (as : List Value) : Bool := match jm_ev none F (jm_rk ci (.ref 2 :: as)) ci 0 (jm_en ci (.ref 2 :: as)) [] jm_G with
  | some (some (.int x), G) => jl_lob G && (match jm_ev none F (jm_rk mi (.ref 180 :: as)) mi 0 (jm_en mi (.ref 180 :: as)) [] G with
    | some (some (.int y), G') => decide (x = y) && jl_lob G'
    | _ => false)
  | _ => false
theorem jl_ok_of {F ci mi : Nat} {as : List Value} (h : jl_okB F ci mi as = true) : jl_ok ci mi as := by
  unfold jl_okB at h
  split at h
  · next x G e1 =>
    simp only [Bool.and_eq_true] at h
    obtain ⟨h1, h2⟩ := h
    split at h2
    · next y G' e2 =>
      simp only [Bool.and_eq_true, decide_eq_true_eq] at h2
      obtain ⟨rfl, h3⟩ := h2
      exact ⟨x, F, _, G, e1, rfl, jl_lob_ok h1, F, _, G', e2, rfl, jl_lob_ok h3⟩
    · cases h2
  · cases h
