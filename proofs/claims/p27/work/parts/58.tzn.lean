set_option maxRecDepth 20000
/-! trailing zeros of small numbers -/
theorem f76_few : ∀ m, m < 512 → f76 (nI (m + 1)) = nI (jf_tz 12 (m + 1)) := by decide +kernel
theorem f76_few2 : ∀ m, m < 512 → f76 (nI (m + 513)) = nI (jf_tz 12 (m + 513)) := by decide +kernel
theorem f76_few3 : ∀ m, m < 512 → f76 (nI (m + 1025)) = nI (jf_tz 12 (m + 1025)) := by decide +kernel
theorem f76_few4 : ∀ m, m < 511 → f76 (nI (m + 1537)) = nI (jf_tz 12 (m + 1537)) := by decide +kernel
theorem f76_n {m : Nat} (h0 : 0 < m) (h1 : m < 2048) : f76 (nI m) = nI (jf_tz 12 m) := by
  by_cases a : m < 513
  · have := f76_few (m - 1) (by omega)
    rw [show m - 1 + 1 = m by omega] at this
    exact this
  by_cases b : m < 1025
  · have := f76_few2 (m - 513) (by omega)
    rw [show m - 513 + 513 = m by omega] at this
    exact this
  by_cases c : m < 1537
  · have := f76_few3 (m - 1025) (by omega)
    rw [show m - 1025 + 1025 = m by omega] at this
    exact this
  · have := f76_few4 (m - 1537) (by omega)
    rw [show m - 1537 + 1537 = m by omega] at this
    exact this
section TZN
variable {S : Option (Nat × (Nat → Int32))} {H : jm_H} {Q : Option Value → jm_H → Prop}
theorem c75 {m : Nat} (h0 : 0 < m) (h1 : m < 2048) : jm_c S 75 [.long (lI m)] H Q = Q (some (.int (nI (jf_tz 12 m)))) H := by
  have z : ¬ nI m = (0 : Int32) := by
    have := nI_eqI (a := m) (b := 0) (by omega) (by decide)
    intro h
    have := this.mp h
    omega
  rw [en75, u75_0, lI_i, ← jI_n, if_pos z, u75_21, c76, f76_n h0 h1]
  simp only [Option.toList_some, List.append_nil]
  rw [u75_25]
end TZN
