set_option maxRecDepth 20000
/-! resizing, the store's row, its bits: on fresh objects -/
theorem jl_few22_0 : ∀ w, w < 3 → jl_okB 3000 147 247 [.int (nI 3), .int (nI w)] = true := by decide +kernel
theorem jl_few22_1 : ∀ w, w < 3 → jl_okB 3000 147 247 [.int (nI 4), .int (nI w)] = true := by decide +kernel
theorem jl_few22_2 : ∀ w, w < 3 → jl_okB 3000 147 247 [.int (nI 5), .int (nI w)] = true := by decide +kernel
theorem jl_few22_3 : ∀ w, w < 3 → jl_okB 3000 147 247 [.int (nI 6), .int (nI w)] = true := by decide +kernel
theorem jl_few22_4 : ∀ w, w < 3 → jl_okB 3000 147 247 [.int (nI 7), .int (nI w)] = true := by decide +kernel
theorem jl_few22_5 : ∀ w, w < 3 → jl_okB 3000 147 247 [.int (nI 8), .int (nI w)] = true := by decide +kernel
theorem jl_few22_6 : ∀ w, w < 3 → jl_okB 3000 147 247 [.int (nI 9), .int (nI w)] = true := by decide +kernel
theorem jl_few22_7 : ∀ w, w < 3 → jl_okB 3000 147 247 [.int (nI 10), .int (nI w)] = true := by decide +kernel
theorem jl_few22_8 : ∀ w, w < 3 → jl_okB 3000 147 247 [.int (nI 11), .int (nI w)] = true := by decide +kernel
theorem jl_few22_9 : ∀ w, w < 3 → jl_okB 3000 147 247 [.int (nI 12), .int (nI w)] = true := by decide +kernel
theorem jl_few22 (n : Nat) (hn : n < 10) (w : Nat) (hw : w < 3) : jl_ok 147 247 [.int (nI (n + 3)), .int (nI w)] := by
  match n, hn with
  | 0, _ => exact jl_ok_of (jl_few22_0 w hw)
  | 1, _ => exact jl_ok_of (jl_few22_1 w hw)
  | 2, _ => exact jl_ok_of (jl_few22_2 w hw)
  | 3, _ => exact jl_ok_of (jl_few22_3 w hw)
  | 4, _ => exact jl_ok_of (jl_few22_4 w hw)
  | 5, _ => exact jl_ok_of (jl_few22_5 w hw)
  | 6, _ => exact jl_ok_of (jl_few22_6 w hw)
  | 7, _ => exact jl_ok_of (jl_few22_7 w hw)
  | 8, _ => exact jl_ok_of (jl_few22_8 w hw)
  | 9, _ => exact jl_ok_of (jl_few22_9 w hw)
theorem jl_few4_0 : ∀ w, w < 3 → jl_okB 3000 92 216 [.int (nI 3), .int (nI w)] = true := by decide +kernel
theorem jl_few4_1 : ∀ w, w < 3 → jl_okB 3000 92 216 [.int (nI 4), .int (nI w)] = true := by decide +kernel
theorem jl_few4_2 : ∀ w, w < 3 → jl_okB 3000 92 216 [.int (nI 5), .int (nI w)] = true := by decide +kernel
theorem jl_few4_3 : ∀ w, w < 3 → jl_okB 3000 92 216 [.int (nI 6), .int (nI w)] = true := by decide +kernel
theorem jl_few4_4 : ∀ w, w < 3 → jl_okB 3000 92 216 [.int (nI 7), .int (nI w)] = true := by decide +kernel
theorem jl_few4_5 : ∀ w, w < 3 → jl_okB 3000 92 216 [.int (nI 8), .int (nI w)] = true := by decide +kernel
theorem jl_few4_6 : ∀ w, w < 3 → jl_okB 3000 92 216 [.int (nI 9), .int (nI w)] = true := by decide +kernel
theorem jl_few4_7 : ∀ w, w < 3 → jl_okB 3000 92 216 [.int (nI 10), .int (nI w)] = true := by decide +kernel
theorem jl_few4_8 : ∀ w, w < 3 → jl_okB 3000 92 216 [.int (nI 11), .int (nI w)] = true := by decide +kernel
theorem jl_few4_9 : ∀ w, w < 3 → jl_okB 3000 92 216 [.int (nI 12), .int (nI w)] = true := by decide +kernel
theorem jl_few4 (n : Nat) (hn : n < 10) (w : Nat) (hw : w < 3) : jl_ok 92 216 [.int (nI (n + 3)), .int (nI w)] := by
  match n, hn with
  | 0, _ => exact jl_ok_of (jl_few4_0 w hw)
  | 1, _ => exact jl_ok_of (jl_few4_1 w hw)
  | 2, _ => exact jl_ok_of (jl_few4_2 w hw)
  | 3, _ => exact jl_ok_of (jl_few4_3 w hw)
  | 4, _ => exact jl_ok_of (jl_few4_4 w hw)
  | 5, _ => exact jl_ok_of (jl_few4_5 w hw)
  | 6, _ => exact jl_ok_of (jl_few4_6 w hw)
  | 7, _ => exact jl_ok_of (jl_few4_7 w hw)
  | 8, _ => exact jl_ok_of (jl_few4_8 w hw)
  | 9, _ => exact jl_ok_of (jl_few4_9 w hw)
theorem jl_h22 (n w : Int32) : jl_ok 147 247 [.int n, .int w] := by
  by_cases h : jr_sz n w
  · obtain ⟨N, W, h1, h2, rfl, rfl⟩ := jr_sz_few h
    exact jl_few22 N h1 W h2
  · refine jl_ok_pure (-1) ?_ ?_
    · rw [en147, u147_0, c93, if_neg h]
      simp only [Option.toList_some, List.append_nil]
      rw [u147_5, if_neg (by decide), u147_8]
      exact ⟨rfl, rfl⟩
    · rw [en247, u247_0, c217, if_neg h]
      simp only [Option.toList_some, List.append_nil]
      rw [u247_5, if_neg (by decide), u247_8]
      exact ⟨rfl, jl_loG⟩
theorem jl_h4 (n w : Int32) : jl_ok 92 216 [.int n, .int w] := by
  by_cases h : jr_sz n w
  · obtain ⟨N, W, h1, h2, rfl, rfl⟩ := jr_sz_few h
    exact jl_few4 N h1 W h2
  · refine jl_ok_pure 0 ?_ ?_
    · rw [en92, u92_0, c93, if_neg h]
      simp only [Option.toList_some, List.append_nil]
      rw [u92_5, if_pos rfl, u92_30]
      exact ⟨rfl, rfl⟩
    · rw [en216, u216_0, c217, if_neg h]
      simp only [Option.toList_some, List.append_nil]
      rw [u216_5, if_pos rfl, u216_28]
      exact ⟨rfl, jl_loG⟩
