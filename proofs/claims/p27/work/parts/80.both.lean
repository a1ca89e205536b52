set_option maxRecDepth 20000
/-! a call's answer, whatever the heap: class and reference; sums and the like, and how they were rounded -/
abbrev jq_PC (q : Nat) : Prop := (11 ≤ q ∧ q ≤ 17) ∨ (25 ≤ q ∧ q ≤ 30) ∨ q = 175
/-- the reference's frame, with its signs and its marks -/
def jq_fn (H H' : jm_H) : Prop := jf_fr (fun q => q = 180 ∨ (205 ≤ q ∧ q ≤ 208)) H H' ∧ ∀ k, k < 43 → jm_I H' 180 k = jm_I H 180 k
theorem jq_fn_refl (H : jm_H) : jq_fn H H := ⟨jf_fr_refl H, fun _ _ => rfl⟩
theorem jq_fn_trans {H H' H'' : jm_H} (h : jq_fn H H') (h' : jq_fn H' H'') : jq_fn H H'' := ⟨jf_fr_trans h.1 h'.1, fun k hk => (h'.2 k hk).trans (h.2 k hk)⟩
theorem jq_fn_of {H H' : jm_H} (h : jq_fm H H') : jq_fn H H' := ⟨jf_fr_mono h.1 (fun q hq => by rcases hq with h | h | h <;> omega), h.2⟩
theorem jq_fn_st {H H' : jm_H} (h : jq_fn H H') (hs : jm_st H) : jm_st H' := jf_fr_st h.1 hs
def jq_C (ci : Nat) (as : List Value) (x : Value) : Prop := ∀ H, jm_st H → ∃ H1, jf_fr jq_PC H H1 ∧ ∀ Q, jm_c none ci (.ref 2 :: as) H Q = Q (some x) H1
def jq_M (mi : Nat) (as : List Value) (x : Value) : Prop := ∀ H, jm_st H → ∃ H1, jq_fn H H1 ∧ ∀ Q, jm_c none mi (.ref 180 :: as) H Q = Q (some x) H1
theorem jq_C0 {ci : Nat} {as : List Value} {x : Value} (h : ∀ H, jm_st H → ∀ Q, jm_c none ci (.ref 2 :: as) H Q = Q (some x) H) : jq_C ci as x := fun H st => ⟨H, jf_fr_refl H, h H st⟩
theorem jq_M0 {mi : Nat} {as : List Value} {x : Value} (h : ∀ H, jm_st H → ∀ Q, jm_c none mi (.ref 180 :: as) H Q = Q (some x) H) : jq_M mi as x := fun H st => ⟨H, jq_fn_refl H, h H st⟩
theorem jl_ok_CM {ci mi : Nat} {as : List Value} {x : Int32} (hc : jq_C ci as (.int x)) (hm : jq_M mi as (.int x)) : jl_ok ci mi as := by
  obtain ⟨G, fG, qG⟩ := hc jm_G jm_G_st
  have stG := jf_fr_st fG jm_G_st
  obtain ⟨G', fG', qG'⟩ := hm G stG
  have stG' := jq_fn_st fG' stG
  refine ⟨x, ?_⟩
  rw [qG]
  refine ⟨rfl, jl_lo_st stG, ?_⟩
  rw [qG']
  exact ⟨rfl, jl_lo_st stG'⟩
theorem jl_okL_CM {ci mi : Nat} {as : List Value} {x : Int64} (hc : jq_C ci as (.long x)) (hm : jq_M mi as (.long x)) : jl_okL ci mi as := by
  obtain ⟨G, fG, qG⟩ := hc jm_G jm_G_st
  have stG := jf_fr_st fG jm_G_st
  obtain ⟨G', fG', qG'⟩ := hm G stG
  have stG' := jq_fn_st fG' stG
  refine ⟨x, ?_⟩
  rw [qG]
  refine ⟨rfl, jl_lo_st stG, ?_⟩
  rw [qG']
  exact ⟨rfl, jl_lo_st stG'⟩
theorem jq_RR_PC {q : Nat} (h : jq_RR q) : jq_PC q := Or.inl h
/-- two rows and one of four -/
def jq_v2 (n w a b k : Int32) : Prop := jr_row n w a ∧ jr_row n w b ∧ 0 ≤ k.toInt ∧ k.toInt ≤ 3
theorem jq_v2_of {n w a b k : Int32} (h : jq_v2 n w a b k) : ∃ N W A B K : Nat, 3 ≤ N ∧ N ≤ 12 ∧ W ≤ 2 ∧ A < 2 ^ N ∧ B < 2 ^ N ∧ K < 4 ∧ n = nI N ∧ w = nI W ∧ a = nI A ∧ b = nI B ∧ k = nI K := by
  obtain ⟨ha, hb, h0, h3⟩ := h
  obtain ⟨N, W, A, h1, h2, hw, hA, rfl, rfl, rfl⟩ := jr_row_of ha
  obtain ⟨B, hB, rfl⟩ := jr_arg h2 hb
  obtain ⟨K, hK, rfl⟩ := ji_nn (x := k) (k := 4) h0 (by omega)
  exact ⟨N, W, A, B, K, h1, h2, hw, hA, hB, hK, rfl, rfl, rfl, rfl, rfl⟩
theorem jr_row_nI {N W A : Nat} (h1 : 3 ≤ N) (h2 : N ≤ 12) (hw : W ≤ 2) (hA : A < 2 ^ N) : jr_row (nI N) (nI W) (nI A) := by
  have hp := p2_12 h2
  refine ⟨⟨?_, ?_, ?_, ?_⟩, ?_, ?_⟩
  · rw [nI_toInt (by omega)]; omega
  · rw [nI_toInt (by omega)]; omega
  · rw [nI_toInt (by omega)]; omega
  · rw [nI_toInt (by omega)]; omega
  · rw [nI_toInt (by omega)]; omega
  · rw [nI_toInt (by omega), nI_toInt (by omega), Int.toNat_natCast]
    have h6 : ((2 : Int) ^ N) = ((2 ^ N : Nat) : Int) := by norm_cast
    rw [h6]
    omega
theorem C129_n {n w a b k : Int32} (h : ¬ jq_v2 n w a b k) : jq_C 129 [.int n, .int w, .int a, .int b, .int k] (.int (-1)) := jq_C0 fun H st Q => by
  rw [en129, u129_0, c115]
  simp only [Option.toList_some, List.append_nil]
  rw [u129_8]
  by_cases h1 : jr_row n w a ∧ jr_row n w b
  · rw [if_pos h1, if_neg i1_0, u129_11, u129_16, u129_22]
    simp only [Int32.lt_iff_toInt_lt, Int32.le_iff_toInt_le, i32_0, i32_3]
    by_cases h2 : k.toInt < 0
    · rw [if_pos h2]
    · rw [if_neg h2, if_neg (fun h3 => h ⟨h1.1, h1.2, by omega, h3⟩)]
  · rw [if_neg h1, if_pos rfl, u129_22]
theorem C130_n {n w a b k : Int32} (h : ¬ jq_v2 n w a b k) : jq_C 130 [.int n, .int w, .int a, .int b, .int k] (.int (-1)) := jq_C0 fun H st Q => by
  rw [en130, u130_0, c115]
  simp only [Option.toList_some, List.append_nil]
  rw [u130_8]
  by_cases h1 : jr_row n w a ∧ jr_row n w b
  · rw [if_pos h1, if_neg i1_0, u130_11, u130_16, u130_22]
    simp only [Int32.lt_iff_toInt_lt, Int32.le_iff_toInt_le, i32_0, i32_3]
    by_cases h2 : k.toInt < 0
    · rw [if_pos h2]
    · rw [if_neg h2, if_neg (fun h3 => h ⟨h1.1, h1.2, by omega, h3⟩)]
  · rw [if_neg h1, if_pos rfl, u130_22]
theorem M223_n {n w a b k : Int32} (h : ¬ jq_v2 n w a b k) : jq_M 223 [.int n, .int w, .int a, .int b, .int k] (.int (-1)) := jq_M0 fun H st Q => by
  rw [en223, u223_0, c220]
  simp only [Option.toList_some, List.append_nil]
  rw [u223_6, u223_43, u223_44]
  by_cases h1 : jr_row n w a
  · rw [if_pos h1, if_neg i1_0, u223_9, c220]
    simp only [Option.toList_some, List.append_nil]
    rw [u223_16, u223_43, u223_44]
    by_cases h2 : jr_row n w b
    · have hb : ¬ (0 ≤ k.toInt ∧ k.toInt ≤ 3) := fun h3 => h ⟨h1, h2, h3.1, h3.2⟩
      rw [if_pos h2, if_neg i1_0, u223_19, c176, i32_0, i32_3, if_neg hb]
      simp only [Option.toList_some, List.append_nil]
      rw [u223_26, u223_43, u223_44, if_pos rfl]
    · rw [if_neg h2, if_pos rfl]
  · rw [if_neg h1, if_pos rfl]
theorem M224_n {n w a b k : Int32} (h : ¬ jq_v2 n w a b k) : jq_M 224 [.int n, .int w, .int a, .int b, .int k] (.int (-1)) := jq_M0 fun H st Q => by
  rw [en224, u224_0, c220]
  simp only [Option.toList_some, List.append_nil]
  rw [u224_6, u224_29]
  by_cases h1 : jr_row n w a
  · rw [if_pos h1, if_neg i1_0, u224_9, c220]
    simp only [Option.toList_some, List.append_nil]
    rw [u224_16, u224_29]
    by_cases h2 : jr_row n w b
    · have hb : ¬ (0 ≤ k.toInt ∧ k.toInt ≤ 3) := fun h3 => h ⟨h1, h2, h3.1, h3.2⟩
      rw [if_pos h2, if_neg i1_0, u224_19, c176, i32_0, i32_3, if_neg hb]
      simp only [Option.toList_some, List.append_nil]
      rw [u224_26, u224_29, if_neg (by decide)]
    · rw [if_neg h2, if_pos rfl]
  · rw [if_neg h1, if_pos rfl]
section BOTH
variable {N W A B K : Nat}
theorem C129 (h1 : 3 ≤ N) (h2 : N ≤ 12) (hw : W ≤ 2) (hA : A < 2 ^ N) (hB : B < 2 ^ N) (hK : K < 4) : jq_C 129 [.int (nI N), .int (nI W), .int (nI A), .int (nI B), .int (nI K)] (.int (nI (jq_rnd N W (jq_op2 K (jq_val N W A) (jq_val N W B))).1)) := fun H st => by
  obtain ⟨H1, _, f1, q1⟩ := c87 (S := none) st h1 h2 hw hA hB K hK
  refine ⟨H1, jf_fr_mono f1 (fun q h => jq_RR_PC h), fun Q => ?_⟩
  have k0 : ¬ nI K < 0 := nI_geK (by omega)
  have k3 : nI K ≤ (3 : Int32) := (nI_leI (b := 3) (by omega) (by decide)).mpr (by omega)
  rw [en129, u129_0, c115, if_pos ⟨jr_row_nI h1 h2 hw hA, jr_row_nI h1 h2 hw hB⟩]
  simp only [Option.toList_some, List.append_nil]
  rw [u129_8, if_neg i1_0, u129_11, if_neg k0, u129_16, if_pos k3, u129_24 (st_t2 st) (by rw [st_r2_3 st]; decide) (by rw [st_r2_3 st]; exact st_t11 st), st_r2_3 st, q1]
  simp only [Option.toList_some, List.append_nil]
  rw [u129_38]
theorem C130 (h1 : 3 ≤ N) (h2 : N ≤ 12) (hw : W ≤ 2) (hA : A < 2 ^ N) (hB : B < 2 ^ N) (hK : K < 4) : jq_C 130 [.int (nI N), .int (nI W), .int (nI A), .int (nI B), .int (nI K)] (.int (jI (jq_rnd N W (jq_op2 K (jq_val N W A) (jq_val N W B))).2)) := fun H st => by
  obtain ⟨H1, l1, f1, q1⟩ := c87 (S := none) st h1 h2 hw hA hB K hK
  have st1 := jf_fr_st f1 st
  refine ⟨H1, jf_fr_mono f1 (fun q h => jq_RR_PC h), fun Q => ?_⟩
  have k0 : ¬ nI K < 0 := nI_geK (by omega)
  have k3 : nI K ≤ (3 : Int32) := (nI_leI (b := 3) (by omega) (by decide)).mpr (by omega)
  rw [en130, u130_0, c115, if_pos ⟨jr_row_nI h1 h2 hw hA, jr_row_nI h1 h2 hw hB⟩]
  simp only [Option.toList_some, List.append_nil]
  rw [u130_8, if_neg i1_0, u130_11, if_neg k0, u130_16, if_pos k3, u130_24 (st_t2 st) (by rw [st_r2_3 st]; decide) (by rw [st_r2_3 st]; exact st_t11 st), st_r2_3 st, q1]
  simp only [Option.toList_some, List.append_nil]
  rw [u130_38 (st_t2 st1) (by rw [st_r2_3 st1]; decide) (by rw [st_r2_3 st1]; exact st_t11 st1), st_r2_3 st1, l1]
theorem M223 (h1 : 3 ≤ N) (h2 : N ≤ 12) (hw : W ≤ 2) (hA : A < 2 ^ N) (hB : B < 2 ^ N) (hK : K < 4) : jq_M 223 [.int (nI N), .int (nI W), .int (nI A), .int (nI B), .int (nI K)] (.int (nI (jq_rnd N W (jq_op2 K (jq_val N W A) (jq_val N W B))).1)) := fun H st => by
  obtain ⟨H1, f1, _, q1⟩ := c209 (S := none) st h1 h2 hw hA hB K hK
  refine ⟨H1, jq_fn_of f1, fun Q => ?_⟩
  have k4 : (nI K).toInt = K := nI_toInt (by omega)
  rw [en223, u223_0, c220, if_pos (jr_row_nI h1 h2 hw hA)]
  simp only [Option.toList_some, List.append_nil]
  rw [u223_6, if_neg i1_0, u223_9, c220, if_pos (jr_row_nI h1 h2 hw hB)]
  simp only [Option.toList_some, List.append_nil]
  rw [u223_16, if_neg i1_0, u223_19, c176, i32_0, i32_3, if_pos (by omega)]
  simp only [Option.toList_some, List.append_nil]
  rw [u223_26, if_neg i1_0, u223_29 (st_t180 st), q1]
  simp only [Option.toList_some, List.append_nil]
  rw [u223_40, u223_44]
theorem jq_rnd_nil {x : Option (Int × Nat × Int)} (h1 : 3 ≤ N) (hx : jq_ok x) : (jq_rnd N W x).1 = 2 ^ (N - 1) ↔ x = none := by
  have hh := p2_half (show 1 ≤ N by omega)
  cases x with
  | none => exact ⟨fun _ => rfl, fun _ => rfl⟩
  | some y =>
    have hp := p2_pos (N - 1)
    refine ⟨fun h => ?_, fun h => by cases h⟩
    exfalso
    unfold jq_rnd at h
    dsimp only at h
    by_cases h0 : y.1 = 0
    · rw [if_pos h0] at h
      dsimp only at h
      omega
    · have hm0 : 0 < y.2.1 := by
        rcases Nat.eq_zero_or_pos y.2.1 with g | g
        · exact absurd (hx.2.1.mpr g) h0
        · exact g
      have hle := jq_rd_le (N := N) (W := W) (m := (jq_sq y.2.1 y.2.2).1) (p := (jq_sq y.2.1 y.2.2).2) h1
      rw [if_neg h0] at h
      by_cases hs : 0 < y.1
      · rw [if_pos hs] at h
        omega
      · rw [if_neg hs] at h
        dsimp only at h
        unfold jf_neg at h
        rcases Nat.eq_zero_or_pos (jq_rd N W (jq_sq y.2.1 y.2.2).1 (jq_sq y.2.1 y.2.2).2).1 with g | g
        · rw [g, Nat.sub_zero, Nat.mod_self] at h
          omega
        · rw [Nat.mod_eq_of_lt (by omega)] at h
          omega
theorem jq_op2_ok {x y : Option (Int × Nat × Int)} (bx : jq_b 11 44 56 x) (bz : jq_b 11 44 56 y) (hK : K < 4) : jq_ok (jq_op2 K x y) := by
  match K, hK with
  | 0, _ => exact jq_add_ok (jq_b_mono bx (by decide) (by decide) (by decide)) (jq_b_mono bz (by decide) (by decide) (by decide))
  | 1, _ => exact jq_add_ok (jq_b_mono bx (by decide) (by decide) (by decide)) (jq_ng_b (jq_b_mono bz (by decide) (by decide) (by decide)))
  | 2, _ => exact jq_b_ok (jq_mul_b bx bz) (by decide) (by decide) (by decide)
  | 3, _ => exact jq_div_ok (jq_b_mono bx (by decide) (by decide) (by decide)) (jq_b_mono bz (by decide) (by decide) (by decide))
theorem jq_rnd_lt {x : Option (Int × Nat × Int)} (h1 : 3 ≤ N) : (jq_rnd N W x).1 < 2 ^ N := by
  have hh := p2_half (show 1 ≤ N by omega)
  have hp := p2_pos (N - 1)
  cases x with
  | none => show 2 ^ (N - 1) < 2 ^ N; omega
  | some y =>
    unfold jq_rnd
    dsimp only
    have hle := jq_rd_le (N := N) (W := W) (m := (jq_sq y.2.1 y.2.2).1) (p := (jq_sq y.2.1 y.2.2).2) h1
    split
    · dsimp only; omega
    · split
      · omega
      · exact jf_neg_lt _ _
theorem M224 (h1 : 3 ≤ N) (h2 : N ≤ 12) (hw : W ≤ 2) (hA : A < 2 ^ N) (hB : B < 2 ^ N) (hK : K < 4) : jq_M 224 [.int (nI N), .int (nI W), .int (nI A), .int (nI B), .int (nI K)] (.int (jI (jq_rnd N W (jq_op2 K (jq_val N W A) (jq_val N W B))).2)) := fun H st => by
  obtain ⟨H1, f1, l1, q1⟩ := c209 (S := none) st h1 h2 hw hA hB K hK
  have st1 := jq_fm_st f1 st
  refine ⟨H1, jq_fn_of f1, fun Q => ?_⟩
  have k4 : (nI K).toInt = K := nI_toInt (by omega)
  have hp := p2_12 h2
  have hlt := jq_rnd_lt (W := W) (x := jq_op2 K (jq_val N W A) (jq_val N W B)) h1
  have hnil := jq_rnd_nil (W := W) h1 (jq_op2_ok (jq_val_b h1 h2 hw hA) (jq_val_b h1 h2 hw hB) hK)
  rw [en224, u224_0, c220, if_pos (jr_row_nI h1 h2 hw hA)]
  simp only [Option.toList_some, List.append_nil]
  rw [u224_6, if_neg i1_0, u224_9, c220, if_pos (jr_row_nI h1 h2 hw hB)]
  simp only [Option.toList_some, List.append_nil]
  rw [u224_16, if_neg i1_0, u224_19, c176, i32_0, i32_3, if_pos (by omega)]
  simp only [Option.toList_some, List.append_nil]
  rw [u224_26, if_pos i1_0, u224_31 (st_t180 st), q1]
  simp only [Option.toList_some, List.append_nil]
  rw [u224_42, c204 (by omega) (by omega) (by omega)]
  simp only [Option.toList_some, List.append_nil]
  rw [u224_50]
  by_cases hv : jq_op2 K (jq_val N W A) (jq_val N W B) = none
  · rw [if_pos (hnil.mpr hv), if_neg i1_0, u224_53, u224_62, hv]
    rfl
  · rw [if_neg (fun g => hv (hnil.mp g)), if_pos rfl, u224_58 (st_t180 st1), l1 hv, u224_62]
end BOTH
