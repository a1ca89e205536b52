set_option maxRecDepth 20000
/-! a product stored: comes to an end -/
theorem st_t34 {H : jm_H} (h : jm_st H) : jm_tg H 34 = 104 := (h.1 _ (List.mem_of_getElem? (i := 32) rfl)).1
theorem st_l34 {H : jm_H} (h : jm_st H) : jm_ln H 34 = 40 := (h.1 _ (List.mem_of_getElem? (i := 32) rfl)).2
theorem st_t35 {H : jm_H} (h : jm_st H) : jm_tg H 35 = 7 := (h.1 _ (List.mem_of_getElem? (i := 33) rfl)).1
theorem st_t36 {H : jm_H} (h : jm_st H) : jm_tg H 36 = 8 := (h.1 _ (List.mem_of_getElem? (i := 34) rfl)).1
theorem st_t37 {H : jm_H} (h : jm_st H) : jm_tg H 37 = 101 := (h.1 _ (List.mem_of_getElem? (i := 35) rfl)).1
theorem st_l37 {H : jm_H} (h : jm_st H) : jm_ln H 37 = 7 := (h.1 _ (List.mem_of_getElem? (i := 35) rfl)).2
theorem st_r34_0 {H : jm_H} (h : jm_st H) : jm_R H 34 0 = 35 := h.2.1 (34, 0, 35) (by decide +kernel)
theorem st_r35_0 {H : jm_H} (h : jm_st H) : jm_R H 35 0 = 36 := h.2.1 (35, 0, 36) (by decide +kernel)
theorem st_r36_0 {H : jm_H} (h : jm_st H) : jm_R H 36 0 = 37 := h.2.1 (36, 0, 37) (by decide +kernel)
theorem js_g1 : jm_I jm_G 31 1 = 8 ∧ jm_I jm_G 31 2 = 1 ∧ jm_I jm_G 2 14 = 0 ∧ jm_I jm_G 2 15 = 0 ∧ jm_I jm_G 32 1 = 0 ∧ jm_I jm_G 32 2 = 0 := by decide +kernel
section STORE
variable {S : Option (Nat × (Nat → Int32))}
theorem s97 : ∀ (d i : Nat) (H : jm_H), i + d = 7 → jm_st H → jm_I H 32 1 = 0 → jm_I H 32 2 = 0 → ∃ H1, jf_fr (fun q => q = 36 ∨ q = 37) H H1 ∧ ∀ Q, jm_w S 1 97 2 [.ref 36, .ref 32, .int (nI i)] [] H Q = Q none H1
  | 0, i, H, hd, st, e1, e2 => by
    refine ⟨jm_pI (jm_pI H 36 1 (jm_I H 32 1)) 36 2 (jm_I (jm_pI H 36 1 (jm_I H 32 1)) 32 2), jf_fr_trans (jf_fr_pI (Or.inl rfl)) (jf_fr_pI (Or.inl rfl)), fun Q => ?_⟩
    rw [u97_2 (st_t36 st) (by rw [st_r36_0 st]; decide) (by rw [st_r36_0 st]; decide) (by rw [st_r36_0 st, st_t37 st]; decide), st_r36_0 st, st_l37 st, if_pos (show Int32.ofNat 7 ≤ nI i from (nI_leI (a := 7) (by decide) (by omega)).mpr (by omega)), u97_38 (st_t32 st) (st_t36 st) (Or.inl e1) (Or.inl (by rw [jm_I_pI, if_neg (by decide)]; exact e2))]
  | d + 1, i, H, hd, st, e1, e2 => by
    have f0 : jf_fr (fun q => q = 36 ∨ q = 37) H (jm_pL H 37 i (jm_L H 33 i)) := jf_fr_pL (Or.inr rfl)
    obtain ⟨H1, f1, q1⟩ := s97 d (i + 1) (jm_pL H 37 i (jm_L H 33 i)) (by omega) (jf_fr_st f0 st) e1 e2
    refine ⟨H1, jf_fr_trans f0 f1, fun Q => ?_⟩
    have hl : ¬ Int32.ofNat 7 ≤ nI i := fun g => by have := (nI_leI (a := 7) (by decide) (by omega)).mp g; omega
    have hin : ¬ (nI i < 0 ∨ 7 ≤ (nI i).toNatClampNeg) := nI_inK (by omega) (by decide)
    have r6 := st_r36_0 st
    have r2 := st_r32_0 st
    rw [u97_2 (st_t36 st) (by rw [r6]; decide) (by rw [r6]; decide) (by rw [r6, st_t37 st]; decide), r6, st_l37 st, if_neg hl, u97_11 (st_t32 st) (by rw [r2]; decide) (by rw [r2]; decide) (by rw [r2, st_t33 st]; decide), r2, st_l33 st, if_neg hl, u97_20 (st_t36 st) (by rw [r6]; decide) (st_t32 st) (by rw [r2]; decide) (by rw [r2, st_l33 st]; exact hin) (by rw [r2]; exact st_t33 st) (by rw [r6, st_l37 st]; exact hin) (by rw [r6]; exact st_t37 st), r6, r2, nI_cl (by omega), nI_succK]
    exact q1 Q
theorem c96 {H : jm_H} (st : jm_st H) (e1 : jm_I H 32 1 = 0) (e2 : jm_I H 32 2 = 0) : ∃ H1, jf_fr (fun q => q = 35 ∨ q = 36 ∨ q = 37) H H1 ∧ ∀ Q, jm_c S 96 [.ref 35, .ref 31] H Q = Q none H1 := by
  obtain ⟨H1, f1, q1⟩ := s97 (S := S) 7 0 H (by omega) st e1 e2
  have st1 := jf_fr_st f1 st
  refine ⟨jm_pI (jm_pI H1 35 1 (jm_I H1 31 1)) 35 2 (jm_I (jm_pI H1 35 1 (jm_I H1 31 1)) 31 2), jf_fr_trans (jf_fr_mono f1 (fun q h => Or.inr h)) (jf_fr_trans (jf_fr_pI (Or.inl rfl)) (jf_fr_pI (Or.inl rfl))), fun Q => ?_⟩
  rw [en96, u96_0 (st_t35 st) (by rw [st_r35_0 st]; decide) (st_t31 st) (by rw [st_r31_0 st]; decide) (by rw [st_r35_0 st]; exact st_t36 st), st_r35_0 st, st_r31_0 st, en97, u97_0]
  show jm_w S 1 97 2 [.ref 36, .ref 32, .int (nI 0)] [] H _ = _
  rw [q1]
  simp only [Option.toList_none, List.nil_append]
  rw [u96_11 (st_t31 st1) (st_t35 st1)]
theorem c95_0 {H : jm_H} {Q : Option Value → jm_H → Prop} : jm_c S 95 [.int 0, .int 40] H Q = Q (some (.int 0)) H := by
  rw [en95, u95_0 (by decide), if_pos (by decide), u95_18]
  rfl
theorem c94 {H : jm_H} (st : jm_st H) (e1 : jm_I H 32 1 = 0) (e2 : jm_I H 32 2 = 0) (e3 : jm_I H 2 14 = 0) (e4 : jm_I H 2 15 = 0) : ∃ H1, jf_fr (fun q => q = 2 ∨ q = 35 ∨ q = 36 ∨ q = 37) H H1 ∧ ∀ Q, jm_c S 94 [.ref 2] H Q = Q none H1 := by
  obtain ⟨H1, f1, q1⟩ := c96 (S := S) st e1 e2
  have st1 := jf_fr_st f1 st
  refine ⟨jm_pI H1 2 15 (jm_I H1 2 15 + (1 : Int32)), jf_fr_trans (jf_fr_mono f1 (fun q h => Or.inr h)) (jf_fr_pI (Or.inl rfl)), fun Q => ?_⟩
  have r8 := st_r2_8 st
  rw [en94, u94_0 (st_t2 st), e4, if_pos (by decide), u94_30 (st_t2 st) (by rw [r8]; decide), e3, e4, r8, show (0 : Int32) + 0 = 0 from rfl, c95_0]
  simp only [Option.toList_some, List.cons_append, List.nil_append]
  have hc : Int32.toNatClampNeg 0 = 0 := by decide
  rw [u94_48 (by rw [st_l34 st]; decide) (Or.inl (st_t34 st)) (by rw [hc, st_r34_0 st]; decide) (st_t2 st) (by rw [st_r2_7 st]; decide) (by rw [hc, st_r34_0 st]; exact st_t35 st), hc, st_r34_0 st, st_r2_7 st, q1]
  simp only [Option.toList_none, List.nil_append]
  rw [u94_56 (st_t2 st1)]
theorem s81 : ∀ (d i : Nat) (y1 y6 y8 y10 y12 y14 : Int64) (x3 x4 x5 : Int32) (w17 : Value) (H : jm_H), 7 ≤ i + d → i < 2147483648 → jm_st H → ∃ H1, jf_fr (fun q => q = 33) H H1 ∧ ∀ Q, jm_w S 2 81 66 [.ref 32, .long y1, .null, .int x3, .int x4, .int x5, .long y6, .null, .long y8, .null, .long y10, .null, .long y12, .null, .long y14, .null, .int (nI i), w17, .null] [] H Q = Q none H1
  | 0, i, y1, y6, y8, y10, y12, y14, x3, x4, x5, w17, H, hd, hi, st => by
    refine ⟨H, jf_fr_refl H, fun Q => ?_⟩
    have r2 := st_r32_0 st
    rw [u81_66 (st_t32 st) (by rw [r2]; decide) (by rw [r2]; decide) (by rw [r2, st_t33 st]; decide), r2, st_l33 st, if_pos (show Int32.ofNat 7 ≤ nI i from (nI_leI (a := 7) (by decide) (by omega)).mpr (by omega)), u81_120]
  | d + 1, i, y1, y6, y8, y10, y12, y14, x3, x4, x5, w17, H, hd, hi, st => by
    have r2 := st_r32_0 st
    by_cases h7 : 7 ≤ i
    · refine ⟨H, jf_fr_refl H, fun Q => ?_⟩
      rw [u81_66 (st_t32 st) (by rw [r2]; decide) (by rw [r2]; decide) (by rw [r2, st_t33 st]; decide), r2, st_l33 st, if_pos (show Int32.ofNat 7 ≤ nI i from (nI_leI (a := 7) (by decide) (by omega)).mpr (by omega)), u81_120]
    · have f0 : jf_fr (fun q => q = 33) H (jm_pL H 33 i ((jm_L H 33 i + y12) &&& (4294967295 : Int64))) := jf_fr_pL rfl
      obtain ⟨H1, f1, q1⟩ := s81 d (i + 1) y1 y6 y8 y10 (((jm_L H 33 i + y12) >>> (Int32.toInt64 (32 : Int32) &&& 63)) + y14) 0 x3 x4 x5 (.long (jm_L H 33 i + y12)) _ (by omega) (by omega) (jf_fr_st f0 st)
      refine ⟨H1, jf_fr_trans f0 f1, fun Q => ?_⟩
      have hl : ¬ Int32.ofNat 7 ≤ nI i := fun g => by have := (nI_leI (a := 7) (by decide) (by omega)).mp g; omega
      have hin : ¬ (nI i < 0 ∨ 7 ≤ (nI i).toNatClampNeg) := nI_inK (by omega) (by decide)
      rw [u81_66 (st_t32 st) (by rw [r2]; decide) (by rw [r2]; decide) (by rw [r2, st_t33 st]; decide), r2, st_l33 st, if_neg hl, u81_76 (st_t32 st) (by rw [r2]; decide) (by rw [r2, st_l33 st]; exact hin) (by rw [r2]; exact st_t33 st), r2, nI_cl (by omega), nI_succK]
      exact q1 Q
theorem c81 (y1 : Int64) (x3 x4 : Int32) {H : jm_H} (st : jm_st H) : ∃ H1, jf_fr (fun q => q = 33) H H1 ∧ ∀ Q, jm_c S 81 [.ref 32, .long y1, .int x3, .int x4] H Q = Q none H1 := by
  have h56 : ∀ (y6 y8 y10 y12 q0 : Int64) (x5 : Int32), ∃ H1, jf_fr (fun q => q = 33) H H1 ∧ ∀ Q, jm_w S 2 81 56 [.ref 32, .long y1, .null, .int x3, .int x4, .int x5, .long y6, .null, .long y8, .null, .long y10, .null, .long y12, .null, .null, .null, .null, .null, .null] [.long q0] H Q = Q none H1 := by
    intro y6 y8 y10 y12 q0 x5
    have h5 : j3 x5.toInt := j3_t x5
    obtain ⟨H1, f1, q1⟩ := s81 (S := S) 7 (max 0 x5.toInt).toNat y1 y6 y8 y10 y12 q0 x3 x4 x5 .null H (by omega) (by have := h5.2; omega) st
    refine ⟨H1, f1, fun Q => ?_⟩
    rw [u81_56, show jm_c S 74 [.int (0 : Int32), .int x5] H = jm_c S 74 [.int (jI 0), .int (jI x5.toInt)] H by rw [← jI_of x5]; rfl]
    rw [c74 ⟨by decide, by decide⟩ h5]
    simp only [Option.toList_some, List.cons_append, List.nil_append]
    rw [u81_64, show jI (max 0 x5.toInt) = nI (max 0 x5.toInt).toNat by rw [jI_n, Int.toNat_of_nonneg (by omega)]]
    exact q1 Q
  by_cases h : x4 = 0
  · obtain ⟨H1, f1, q1⟩ := h56 (y1 <<< (Int32.toInt64 (x3 &&& (31 : Int32)) &&& 63)) ((y1 <<< (Int32.toInt64 (x3 &&& (31 : Int32)) &&& 63)) &&& (4294967295 : Int64)) ((y1 <<< (Int32.toInt64 (x3 &&& (31 : Int32)) &&& 63)) >>> (Int32.toInt64 (32 : Int32) &&& 63)) (-((y1 <<< (Int32.toInt64 (x3 &&& (31 : Int32)) &&& 63)) &&& (4294967295 : Int64))) (-((y1 <<< (Int32.toInt64 (x3 &&& (31 : Int32)) &&& 63)) >>> (Int32.toInt64 (32 : Int32) &&& 63))) (x3 >>> ((5 : Int32) &&& 31))
    refine ⟨H1, f1, fun Q => ?_⟩
    rw [en81, u81_0, if_pos h, u81_38, u81_41, if_pos h, u81_53]
    exact q1 Q
  · obtain ⟨H1, f1, q1⟩ := h56 (y1 <<< (Int32.toInt64 (x3 &&& (31 : Int32)) &&& 63)) ((y1 <<< (Int32.toInt64 (x3 &&& (31 : Int32)) &&& 63)) &&& (4294967295 : Int64)) ((y1 <<< (Int32.toInt64 (x3 &&& (31 : Int32)) &&& 63)) >>> (Int32.toInt64 (32 : Int32) &&& 63)) ((y1 <<< (Int32.toInt64 (x3 &&& (31 : Int32)) &&& 63)) &&& (4294967295 : Int64)) ((y1 <<< (Int32.toInt64 (x3 &&& (31 : Int32)) &&& 63)) >>> (Int32.toInt64 (32 : Int32) &&& 63)) (x3 >>> ((5 : Int32) &&& 31))
    refine ⟨H1, f1, fun Q => ?_⟩
    rw [en81, u81_0, if_neg h, u81_33, u81_41, if_neg h, u81_48]
    exact q1 Q
theorem s82 : ∀ (d i : Nat) (y1 : Int64) (w4 : Value) (H : jm_H), i + d = 7 → jm_st H → ∃ H1, jf_fr (fun q => q = 33) H H1 ∧ ∀ Q, jm_w S 1 82 4 [.ref 32, .long y1, .null, .int (nI i), w4, .null] [] H Q = Q none H1
  | 0, i, y1, w4, H, hd, st => by
    refine ⟨H, jf_fr_refl H, fun Q => ?_⟩
    have r2 := st_r32_0 st
    rw [u82_4 (st_t32 st) (by rw [r2]; decide) (by rw [r2]; decide) (by rw [r2, st_t33 st]; decide), r2, st_l33 st, if_pos (show Int32.ofNat 7 ≤ nI i from (nI_leI (a := 7) (by decide) (by omega)).mpr (by omega)), u82_55]
  | d + 1, i, y1, w4, H, hd, st => by
    have r2 := st_r32_0 st
    have f0 : jf_fr (fun q => q = 33) H (jm_pL H 33 i ((((jm_L H 33 i ^^^ (-1 : Int64)) &&& (4294967295 : Int64)) + y1) &&& (4294967295 : Int64))) := jf_fr_pL rfl
    obtain ⟨H1, f1, q1⟩ := s82 d (i + 1) ((((jm_L H 33 i ^^^ (-1 : Int64)) &&& (4294967295 : Int64)) + y1) >>> (Int32.toInt64 (32 : Int32) &&& 63)) (.long (((jm_L H 33 i ^^^ (-1 : Int64)) &&& (4294967295 : Int64)) + y1)) _ (by omega) (jf_fr_st f0 st)
    refine ⟨H1, jf_fr_trans f0 f1, fun Q => ?_⟩
    have hl : ¬ Int32.ofNat 7 ≤ nI i := fun g => by have := (nI_leI (a := 7) (by decide) (by omega)).mp g; omega
    have hin : ¬ (nI i < 0 ∨ 7 ≤ (nI i).toNatClampNeg) := nI_inK (by omega) (by decide)
    rw [u82_4 (st_t32 st) (by rw [r2]; decide) (by rw [r2]; decide) (by rw [r2, st_t33 st]; decide), r2, st_l33 st, if_neg hl, u82_13 (st_t32 st) (by rw [r2]; decide) (by rw [r2, st_l33 st]; exact hin) (by rw [r2]; exact st_t33 st), r2, nI_cl (by omega), nI_succK]
    exact q1 Q
theorem c82 {H : jm_H} (st : jm_st H) : ∃ H1, jf_fr (fun q => q = 33) H H1 ∧ ∀ Q, jm_c S 82 [.ref 32] H Q = Q none H1 := by
  obtain ⟨H1, f1, q1⟩ := s82 (S := S) 7 0 1 .null H (by omega) st
  refine ⟨H1, f1, fun Q => ?_⟩
  rw [en82, u82_0]
  exact q1 Q
/-- either way of an if comes to an end -/
theorem js_if {P : Nat → Prop} {H : jm_H} {c : Prop} [Decidable c] {x y : (Option Value → jm_H → Prop) → Prop} (h1 : c → ∃ H1, jf_fr P H H1 ∧ ∀ Q, x Q = Q none H1) (h2 : ¬ c → ∃ H1, jf_fr P H H1 ∧ ∀ Q, y Q = Q none H1) : ∃ H1, jf_fr P H H1 ∧ ∀ Q, (if c then x Q else y Q) = Q none H1 := by
  by_cases h : c
  · obtain ⟨H1, f, q⟩ := h1 h
    exact ⟨H1, f, fun Q => by rw [if_pos h]; exact q Q⟩
  · obtain ⟨H1, f, q⟩ := h2 h
    exact ⟨H1, f, fun Q => by rw [if_neg h]; exact q Q⟩
def js_P (q : Nat) : Prop := q = 32 ∨ q = 33
theorem f157 {x3 x4 x5 : Int32} (H : jm_H) : ∃ H1, jf_fr js_P H H1 ∧ ∀ Q, jm_w S 3 80 157 [.ref 32, .ref 27, .ref 29, .int x3, .int x4, .int x5] [] H Q = Q none H1 := ⟨H, jf_fr_refl H, fun Q => u80_157⟩
theorem f141 {x3 x4 x5 : Int32} {H : jm_H} (st : jm_st H) : ∃ H1, jf_fr js_P H H1 ∧ ∀ Q, jm_w S 3 80 141 [.ref 32, .ref 27, .ref 29, .int x3, .int x4, .int x5] [] H Q = Q none H1 := by
  simp only [u80_141 (st_t32 st), u80_153, u80_149, u80_154 (st_t32 st) (Or.inl rfl), u80_154 (st_t32 st) (Or.inr rfl), u80_157]
  exact js_if (fun _ => ⟨_, jf_fr_pI (Or.inl rfl), fun _ => rfl⟩) (fun _ => ⟨_, jf_fr_pI (Or.inl rfl), fun _ => rfl⟩)
theorem f122 {x3 x4 x5 : Int32} {H : jm_H} (st : jm_st H) : ∃ H1, jf_fr js_P H H1 ∧ ∀ Q, jm_w S 3 80 122 [.ref 32, .ref 27, .ref 29, .int x3, .int x4, .int x5] [] H Q = Q none H1 := by
  have r2 := st_r32_0 st
  simp only [u80_122 (st_t32 st) (show ¬ jm_R H 32 0 = 0 by rw [r2]; decide) (show ¬ ((6 : Int32) < 0 ∨ jm_ln H (jm_R H 32 0) ≤ Int32.toNatClampNeg (6 : Int32)) by rw [r2, st_l33 st]; decide) (show jm_tg H (jm_R H 32 0) = 101 by rw [r2]; exact st_t33 st)]
  refine js_if (fun _ => f157 H) (fun _ => ?_)
  obtain ⟨H1, f1, q1⟩ := c82 (S := S) st
  obtain ⟨H2, f2, q2⟩ := f141 (S := S) (x3 := x3) (x4 := x4) (x5 := x5) (jf_fr_st f1 st)
  refine ⟨H2, jf_fr_trans (jf_fr_mono f1 (fun q h => Or.inr h)) f2, fun Q => ?_⟩
  rw [u80_137 (st_t32 st), q1]
  exact q2 Q
theorem f119 {x3 x4 x5 p2 p3 : Int32} {q1 : Int64} {H : jm_H} (st : jm_st H) : ∃ H1, jf_fr js_P H H1 ∧ ∀ Q, jm_w S 3 80 119 [.ref 32, .ref 27, .ref 29, .int x3, .int x4, .int x5] [.int p3, .int p2, .long q1, .ref 32] H Q = Q none H1 := by
  obtain ⟨H1, f1, e1⟩ := c81 (S := S) q1 p2 p3 st
  obtain ⟨H2, f2, e2⟩ := f122 (S := S) (x3 := x3) (x4 := x4) (x5 := x5) (jf_fr_st f1 st)
  refine ⟨H2, jf_fr_trans (jf_fr_mono f1 (fun q h => Or.inr h)) f2, fun Q => ?_⟩
  rw [u80_119 (st_t32 st), e1]
  exact e2 Q
theorem f81 {x3 x4 p0 : Int32} {H : jm_H} (st : jm_st H) : ∃ H1, jf_fr js_P H H1 ∧ ∀ Q, jm_w S 3 80 81 [.ref 32, .ref 27, .ref 29, .int x3, .int x4, .null] [.int p0] H Q = Q none H1 := by
  simp only [u80_81 (st_t27 st) (st_t29 st) (st_t32 st), u80_118, u80_114]
  exact js_if (fun _ => f119 st) (fun _ => f119 st)
theorem f68 {x3 p0 : Int32} {H : jm_H} (st : jm_st H) : ∃ H1, jf_fr js_P H H1 ∧ ∀ Q, jm_w S 3 80 68 [.ref 32, .ref 27, .ref 29, .int x3, .null, .null] [.int p0] H Q = Q none H1 := by
  simp only [u80_68, u80_80, u80_76]
  exact js_if (fun _ => f81 st) (fun _ => f81 st)
theorem f51 {x3 : Int32} (H : jm_H) : ∃ H1, jf_fr js_P H H1 ∧ ∀ Q, jm_w S 3 80 51 [.ref 32, .ref 27, .ref 29, .int x3, .null, .null] [] H Q = Q none H1 := ⟨H, jf_fr_refl H, fun Q => u80_51⟩
theorem f52 {x3 : Int32} {H : jm_H} (st : jm_st H) : ∃ H1, jf_fr js_P H H1 ∧ ∀ Q, jm_w S 3 80 52 [.ref 32, .ref 27, .ref 29, .int x3, .null, .null] [] H Q = Q none H1 := by
  simp only [u80_52 (st_t27 st) (st_t29 st), u80_67, u80_63]
  exact js_if (fun _ => f68 st) (fun _ => f68 st)
theorem f27 {x3 p1 : Int32} (hp : p1 = 0 ∨ p1 = 1) {H : jm_H} (st : jm_st H) : ∃ H1, jf_fr js_P H H1 ∧ ∀ Q, jm_w S 3 80 27 [.ref 32, .ref 27, .ref 29, .int x3, .null, .null] [.int p1, .ref 32] H Q = Q none H1 := by
  have f0 : jf_fr js_P H (jm_pI H 32 2 p1) := jf_fr_pI (Or.inl rfl)
  have st0 := jf_fr_st f0 st
  have : ∃ H1, jf_fr js_P (jm_pI H 32 2 p1) H1 ∧ ∀ Q, jm_w S 3 80 27 [.ref 32, .ref 27, .ref 29, .int x3, .null, .null] [.int p1, .ref 32] H Q = Q none H1 := by
    simp only [u80_27 (st_t32 st) hp (st_t32 st), u80_37 (st_t27 st0), u80_44 (st_t29 st0)]
    exact js_if (fun _ => f51 _) (fun _ => js_if (fun _ => f51 _) (fun _ => js_if (fun _ => f52 st0) (fun _ => f51 _)))
  obtain ⟨H1, f1, q1⟩ := this
  exact ⟨H1, jf_fr_trans f0 f1, q1⟩
theorem c80 {x3 : Int32} {H : jm_H} (st : jm_st H) : ∃ H1, jf_fr js_P H H1 ∧ ∀ Q, jm_c S 80 [.ref 32, .ref 27, .ref 29, .int x3] H Q = Q none H1 := by
  have e : ∀ Q, jm_c S 80 [.ref 32, .ref 27, .ref 29, .int x3] H Q = jm_w S 3 80 0 [.ref 32, .ref 27, .ref 29, .int x3, .null, .null] [] H Q := fun Q => en80
  simp only [e, u80_0 (st_t32 st), u80_8 (st_t27 st), u80_15 (st_t29 st), u80_22, u80_26]
  exact js_if (fun _ => f27 (Or.inr rfl) st) (fun _ => js_if (fun _ => f27 (Or.inr rfl) st) (fun _ => js_if (fun _ => f27 (Or.inl rfl) st) (fun _ => f27 (Or.inr rfl) st)))
def js_C (q : Nat) : Prop := q = 2 ∨ (27 ≤ q ∧ q ≤ 37)
theorem c98 {A B : Nat} {x3 : Int32} (hA : A < 2 ^ 8) (hB : B < 2 ^ 8) : ∃ H1, jf_fr js_C jm_G H1 ∧ ∀ Q, jm_c none 98 [.ref 2, .int (nI A), .int (nI B), .int x3] jm_G Q = Q (some (.int 1)) H1 := by
  obtain ⟨g1, g2, g3, g4, g5, g6⟩ := js_g1
  have st := jm_G_st
  obtain ⟨H1, f1, q1⟩ := c94 (S := none) st g5 g6 g3 g4
  have st1 := jf_fr_st f1 st
  have a1 : jm_I H1 31 1 = nI 8 := by rw [(f1.2.2.2.2 31 (by decide)).1]; exact g1
  have a2 : jm_I H1 31 2 = nI 1 := by rw [(f1.2.2.2.2 31 (by decide)).1]; exact g2
  obtain ⟨H2, _, _, f2, q2⟩ := c68 (S := none) (st_t27 st1) (st_r27_0 st1) (by decide) (by decide) (st_t28 st1) (show 3 ≤ 8 by decide) (by decide) (show 1 ≤ 2 by decide) hA
  have st2 := jf_fr_st f2 st1
  have b1 : jm_I H2 31 1 = nI 8 := by rw [(f2.2.2.2.2 31 (by decide)).1]; exact a1
  have b2 : jm_I H2 31 2 = nI 1 := by rw [(f2.2.2.2.2 31 (by decide)).1]; exact a2
  obtain ⟨H3, _, _, f3, q3⟩ := c68 (S := none) (st_t29 st2) (st_r29_0 st2) (by decide) (by decide) (st_t30 st2) (show 3 ≤ 8 by decide) (by decide) (show 1 ≤ 2 by decide) hB
  have st3 := jf_fr_st f3 st2
  obtain ⟨H4, f4, q4⟩ := c80 (S := none) (x3 := x3) st3
  refine ⟨H4, jf_fr_trans (jf_fr_mono f1 ?_) (jf_fr_trans (jf_fr_mono f2 ?_) (jf_fr_trans (jf_fr_mono f3 ?_) (jf_fr_mono f4 ?_))), fun Q => ?_⟩
  · intro q h; unfold js_C; omega
  · intro q h; unfold js_C; omega
  · intro q h; unfold js_C; omega
  · intro q h; unfold js_C; unfold js_P at h; omega
  have g1' : jm_I jm_G 31 1 = nI 8 := g1
  have g2' : jm_I jm_G 31 2 = nI 1 := g2
  rw [en98, u98_0 (st_t2 st) (by rw [st_r2_7 st]; decide) (by rw [st_r2_7 st]; exact st_t31 st), st_r2_7 st, g1', g2', c99, if_pos (jr_row_nI (by decide) (by decide) (by decide) hA)]
  simp only [Option.toList_some, List.append_nil]
  rw [u98_18, if_neg i1_0, u98_21 (st_t2 st) (by rw [st_r2_7 st]; decide) (by rw [st_r2_7 st]; exact st_t31 st), st_r2_7 st, g1', g2', c99, if_pos (jr_row_nI (by decide) (by decide) (by decide) hB)]
  simp only [Option.toList_some, List.append_nil]
  rw [u98_39, if_pos i1_0, u98_44 (st_t2 st), q1]
  simp only [Option.toList_none, List.nil_append]
  rw [u98_48 (st_t2 st1) (by rw [st_r2_5 st1]; decide) (by rw [st_r2_7 st1]; decide) (by rw [st_r2_7 st1]; exact st_t31 st1) (by rw [st_r2_5 st1]; exact st_t27 st1), st_r2_5 st1, st_r2_7 st1, a1, a2, q2]
  simp only [Option.toList_none, List.nil_append]
  rw [u98_70 (st_t2 st2) (by rw [st_r2_6 st2]; decide) (by rw [st_r2_7 st2]; decide) (by rw [st_r2_7 st2]; exact st_t31 st2) (by rw [st_r2_6 st2]; exact st_t29 st2), st_r2_6 st2, st_r2_7 st2, b1, b2, q3]
  simp only [Option.toList_none, List.nil_append]
  rw [u98_92 (st_t2 st3) (by rw [st_r2_7 st3]; decide) (by rw [st_r2_7 st3]; exact st_t31 st3) (by rw [st_r2_7 st3, st_r31_0 st3]; decide) (by rw [st_r2_5 st3]; decide) (by rw [st_r2_6 st3]; decide) (by rw [st_r2_7 st3, st_r31_0 st3]; exact st_t32 st3), st_r2_7 st3, st_r31_0 st3, st_r2_5 st3, st_r2_6 st3, q4]
  simp only [Option.toList_none, List.nil_append]
  rw [u98_111]
/-- not two rows: no -/
theorem c98_no {a b x3 : Int32} (h : ¬ (jr_row 8 1 a ∧ jr_row 8 1 b)) {Q : Option Value → jm_H → Prop} : jm_c none 98 [.ref 2, .int a, .int b, .int x3] jm_G Q = Q (some (.int 0)) jm_G := by
  obtain ⟨g1, g2, _⟩ := js_g1
  have st := jm_G_st
  rw [en98, u98_0 (st_t2 st) (by rw [st_r2_7 st]; decide) (by rw [st_r2_7 st]; exact st_t31 st), st_r2_7 st, g1, g2, c99]
  simp only [Option.toList_some, List.append_nil]
  rw [u98_18]
  by_cases ha : jr_row 8 1 a
  · have hb : ¬ jr_row 8 1 b := fun g => h ⟨ha, g⟩
    rw [if_pos ha, if_neg i1_0, u98_21 (st_t2 st) (by rw [st_r2_7 st]; decide) (by rw [st_r2_7 st]; exact st_t31 st), st_r2_7 st, g1, g2, c99, if_neg hb]
    simp only [Option.toList_some, List.append_nil]
    rw [u98_39, if_neg (fun g => g rfl), u98_42]
  · rw [if_neg ha, if_pos rfl, u98_42]
end STORE
