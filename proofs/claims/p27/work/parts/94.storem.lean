set_option maxRecDepth 20000
def js_m (H : jm_H) : Prop := jm_I H 188 0 = nI 8 ∧ jm_I H 188 1 = nI 1 ∧ (∀ k, k < 20 → 2 ≤ k → jm_I H 188 k = 0) ∧ jm_I H 180 39 = 0 ∧ jm_I H 180 40 = 0
theorem js_m_G : js_m jm_G := by
  have h : jm_I jm_G 188 0 = 8 ∧ jm_I jm_G 188 1 = 1 ∧ (∀ k, k < 20 → 2 ≤ k → jm_I jm_G 188 k = 0) ∧ jm_I jm_G 180 39 = 0 ∧ jm_I jm_G 180 40 = 0 := by decide +kernel
  exact h
theorem js_m_fr {P : Nat → Prop} {H H1 : jm_H} (f : jf_fr P H H1) (h1 : ¬ P 180) (h2 : ¬ P 188) (h : js_m H) : js_m H1 := by
  have e1 := (f.2.2.2.2 180 h1).1
  have e2 := (f.2.2.2.2 188 h2).1
  unfold js_m at *
  rw [e1, e2]
  exact h
section STOREM
variable {S : Option (Nat × (Nat → Int32))}
theorem s218 : ∀ (d i : Nat) (H : jm_H), i + d = 20 → jm_st H → ∃ H1, jf_fr (fun q => q = 180 ∨ q = 202) H H1 ∧ ∀ Q, jm_w S 1 218 50 [.ref 180, .int 0, .int (nI i)] [] H Q = Q none H1
  | 0, i, H, hd, st => by
    refine ⟨jm_pI H 180 40 (jm_I H 180 40 + (1 : Int32)), jf_fr_pI (Or.inl rfl), fun Q => ?_⟩
    rw [u218_50, if_pos (show (20 : Int32) ≤ nI i from (nI_leI (a := 20) (by decide) (by omega)).mpr (by omega)), u218_76 (st_t180 st)]
  | d + 1, i, H, hd, st => by
    have f0 : jf_fr (fun q => q = 180 ∨ q = 202) H (jm_pI H 202 i (jm_I H 188 i)) := jf_fr_pI (Or.inr rfl)
    obtain ⟨H1, f1, q1⟩ := s218 d (i + 1) _ (by omega) (jf_fr_st f0 st)
    refine ⟨H1, jf_fr_trans f0 f1, fun Q => ?_⟩
    have r1 := st_r180_38 st
    have r2 := st_r180_17 st
    have ez : (0 : Int32) + nI i = nI i := Int32.zero_add _
    rw [u218_50, if_neg (show ¬ (20 : Int32) ≤ nI i from fun g => by have := (nI_leI (a := 20) (by decide) (by omega)).mp g; omega), u218_56 (st_t180 st) (by rw [r1]; decide) (by rw [r2]; decide) (by rw [r2, st_l188 st]; exact nI_inK (by omega) (by decide)) (by rw [r2]; decide) (by rw [r2]; exact st_t188 st) (by rw [r1, st_l202 st, ez]; exact nI_inK (by omega) (by decide)) (by rw [r1]; exact st_t202 st), r1, r2, ez, nI_cl (by omega), nI_succK]
    exact q1 Q
theorem c218 {H : jm_H} (st : jm_st H) (hm : js_m H) : ∃ H1, jf_fr (fun q => q = 180 ∨ q = 202) H H1 ∧ ∀ Q, jm_c S 218 [.ref 180] H Q = Q none H1 := by
  obtain ⟨H1, f1, q1⟩ := s218 (S := S) 20 0 H (by omega) st
  refine ⟨H1, f1, fun Q => ?_⟩
  obtain ⟨_, _, _, e1, e2⟩ := hm
  rw [en218, u218_0 (st_t180 st), e2, if_pos (by decide), u218_32 (st_t180 st), e1, e2, show (20 : Int32) * ((0 : Int32) + 0 - ((0 : Int32) + 0) / 40 * 40) = 0 from by decide]
  exact q1 Q
variable {x1 x2 x3 x4 : Int32}
theorem s219a : ∀ (d i : Nat) (H : jm_H), i + d = 20 → jm_st H → ∃ H1, jf_fr (fun q => q = 188) H H1 ∧ ∀ Q, jm_w S 5 219 65 [.ref 180, .int x1, .int x2, .int x3, .int x4, .int (nI i)] [] H Q = Q (some (.int 1)) H1
  | 0, i, H, hd, st => by
    have r2 := st_r180_17 st
    have f0 : jf_fr (fun q => q = 188) H (jm_pI H 188 3 1) := jf_fr_pI rfl
    have st0 := jf_fr_st f0 st
    have c3 : Int32.toNatClampNeg 3 = 3 := by decide
    have r3 : jm_R (jm_pI H 188 3 1) 180 17 = 188 := r2
    have e3 : jm_I (jm_pI H 188 3 1) 188 3 = 1 := by rw [jm_I_pI, if_pos ⟨rfl, rfl⟩]
    refine ⟨jm_pI H 188 3 1, f0, fun Q => ?_⟩
    rw [u219_65, if_pos (show (20 : Int32) ≤ nI i from (nI_leI (a := 20) (by decide) (by omega)).mpr (by omega)), u219_86 (st_t180 st) (by rw [r2]; decide) (by rw [r2, st_l188 st]; decide) (by rw [r2]; exact st_t188 st), r2, c3, u219_93 (H := jm_pI H 188 3 1) (st_t180 st0) (by rw [r3]; decide) (by rw [r3, st_l188 st0]; decide) (by rw [r3]; decide) (by rw [r3]; exact st_t188 st0), r3, c3, e3, if_neg (fun g => g rfl), u219_103]
  | d + 1, i, H, hd, st => by
    have r2 := st_r180_17 st
    have f0 : jf_fr (fun q => q = 188) H (jm_pI H 188 i 0) := jf_fr_pI rfl
    obtain ⟨H1, f1, q1⟩ := s219a d (i + 1) _ (by omega) (jf_fr_st f0 st)
    refine ⟨H1, jf_fr_trans f0 f1, fun Q => ?_⟩
    rw [u219_65, if_neg (show ¬ (20 : Int32) ≤ nI i from fun g => by have := (nI_leI (a := 20) (by decide) (by omega)).mp g; omega), u219_72 (st_t180 st) (by rw [r2]; decide) (by rw [r2, st_l188 st]; exact nI_inK (by omega) (by decide)) (by rw [r2]; exact st_t188 st), r2, nI_cl (by omega), nI_succK]
    exact q1 Q
theorem s219b : ∀ (d i : Nat) (H : jm_H), i + d = 16 → jm_st H → ∃ H1, jf_fr (fun q => q = 188) H H1 ∧ ∀ Q, jm_w S 5 219 145 [.ref 180, .int x1, .int x2, .int x3, .int x4, .int (nI i)] [] H Q = Q (some (.int 1)) H1
  | 0, i, H, hd, st => by
    refine ⟨H, jf_fr_refl H, fun Q => ?_⟩
    rw [u219_145, if_pos (show (16 : Int32) ≤ nI i from (nI_leI (a := 16) (by decide) (by omega)).mpr (by omega)), u219_174]
  | d + 1, i, H, hd, st => by
    have r2 := st_r180_17 st
    have r5 := st_r180_50 st
    have f0 : jf_fr (fun q => q = 188) H (jm_pI H 188 (4 + i) (jm_I H 205 i)) := jf_fr_pI rfl
    obtain ⟨H1, f1, q1⟩ := s219b d (i + 1) _ (by omega) (jf_fr_st f0 st)
    refine ⟨H1, jf_fr_trans f0 f1, fun Q => ?_⟩
    have ez : (4 : Int32) + nI i = nI (4 + i) := nI_addN 4 i
    rw [u219_145, if_neg (show ¬ (16 : Int32) ≤ nI i from fun g => by have := (nI_leI (a := 16) (by decide) (by omega)).mp g; omega), u219_152 (st_t180 st) (by rw [r2]; decide) (by rw [r5]; decide) (by rw [r5, st_l205 st]; exact nI_inK (by omega) (by decide)) (by rw [r5]; decide) (by rw [r5]; exact st_t205 st) (by rw [r2, st_l188 st, ez]; exact nI_inK (by omega) (by decide)) (by rw [r2]; exact st_t188 st), r2, r5, ez, nI_cl (by omega), nI_cl (by omega), nI_succK]
    exact q1 Q
theorem s221 : ∀ (d i : Nat) (H : jm_H), i + d = 16 → jm_st H → (∀ k, k < 20 → 2 ≤ k → jm_I H 188 k = 0) → (∀ k, k < i → jm_I H 205 k = 0) → ∃ H1, jf_fr (fun q => q = 205) H H1 ∧ (∀ k, k < 16 → jm_I H1 205 k = 0) ∧ ∀ Q, jm_w S 1 221 12 [.ref 180, .int (nI i)] [] H Q = Q none H1
  | 0, i, H, hd, st, hz, h0 => by
    refine ⟨H, jf_fr_refl H, fun k hk => h0 k (by omega), fun Q => ?_⟩
    rw [u221_12, if_pos (show (16 : Int32) ≤ nI i from (nI_leI (a := 16) (by decide) (by omega)).mpr (by omega)), u221_38]
  | d + 1, i, H, hd, st, hz, h0 => by
    have r2 := st_r180_17 st
    have r5 := st_r180_50 st
    have f0 : jf_fr (fun q => q = 205) H (jm_pI H 205 i 0) := jf_fr_pI rfl
    obtain ⟨H1, f1, z1, q1⟩ := s221 d (i + 1) (jm_pI H 205 i 0) (by omega) (jf_fr_st f0 st) (fun k h1 h2 => by rw [jm_I_pI, if_neg (fun g => absurd g.1 (by decide))]; exact hz k h1 h2) (fun k hk => by
      rw [jm_I_pI]
      by_cases h : k = i
      · rw [if_pos ⟨rfl, h⟩]
      · rw [if_neg (fun g => h g.2)]
        exact h0 k (by omega))
    refine ⟨H1, jf_fr_trans f0 f1, z1, fun Q => ?_⟩
    have ez : (4 : Int32) + nI i = nI (4 + i) := nI_addN 4 i
    rw [u221_12, if_neg (show ¬ (16 : Int32) ≤ nI i from fun g => by have := (nI_leI (a := 16) (by decide) (by omega)).mp g; omega), u221_18 (st_t180 st) (by rw [r5]; decide) (by rw [r2]; decide) (by rw [r2, st_l188 st, ez]; exact nI_inK (by omega) (by decide)) (by rw [r2]; decide) (by rw [r2]; exact st_t188 st) (by rw [r5, st_l205 st]; exact nI_inK (by omega) (by decide)) (by rw [r5]; exact st_t205 st), r2, r5, ez, nI_cl (by omega), nI_cl (by omega), nI_succK, hz (4 + i) (by omega) (by omega)]
    exact q1 Q
theorem c221 {H : jm_H} (st : jm_st H) (hz : ∀ k, k < 20 → 2 ≤ k → jm_I H 188 k = 0) : ∃ H1, jf_fr (fun q => q = 180 ∨ q = 205) H H1 ∧ jq_sm H1 0 ∧ ∀ Q, jm_c S 221 [.ref 180] H Q = Q none H1 := by
  have f0 : jf_fr (fun q => q = 180 ∨ q = 205) H (jm_pI H 180 52 0) := jf_fr_pI (Or.inl rfl)
  have r2 := st_r180_17 st
  obtain ⟨H1, f1, z1, q1⟩ := s221 (S := S) 16 0 (jm_pI H 180 52 0) (by omega) (jf_fr_st f0 st) (fun k h1 h2 => by rw [jm_I_pI, if_neg (fun g => absurd g.1 (by decide))]; exact hz k h1 h2) (fun k hk => absurd hk (Nat.not_lt_zero k))
  refine ⟨H1, jf_fr_trans f0 (jf_fr_mono f1 (fun q h => Or.inr h)), ⟨?_, by decide, fun k hk => ?_⟩, fun Q => ?_⟩
  · rw [(f1.2.2.2.2 180 (by decide)).1, jm_I_pI, if_pos ⟨rfl, rfl⟩]
    decide
  · rw [z1 k hk]
    unfold jq_d
    rw [show (0 : Int).natAbs = 0 from rfl, Nat.zero_div]
    rfl
  · rw [en221, u221_0 (st_t180 st) (by rw [r2]; decide) (by rw [r2, st_l188 st]; decide) (by rw [r2]; decide) (by rw [r2]; exact st_t188 st), r2, show Int32.toNatClampNeg 2 = 2 from by decide, hz 2 (by decide) (by decide)]
    exact q1 Q
theorem f129 {A B : Nat} {b : Int} {w5 : Value} {H : jm_H} (st : jm_st H) (hz : jq_sm H 0) (hA : A < 2 ^ 8) (hB : B < 2 ^ 8) (hn : A ≠ 2 ^ 7) (hnB : B ≠ 2 ^ 7) (hb : b = -1 ∨ b = 1) : ∃ H1, jm_st H1 ∧ ∀ Q, jm_w S 5 219 129 [.ref 180, .int (nI A), .int (nI B), .int x3, .int x4, w5] [.int (jI b), .int (nI B), .int (nI A), .int (nI 1), .int (nI 8), .ref 180] H Q = Q (some (.int 1)) H1 := by
  obtain ⟨G, _, fG, qG⟩ := c205 (S := S) st (show 3 ≤ 8 by decide) (by decide) (show 1 ≤ 2 by decide) hA hn hB hnB hz hb (by decide)
  have stG := jq_fm_st fG st
  have r2 := st_r180_17 stG
  have f0 : jf_fr (fun q => q = 188) G (jm_pI G 188 2 (jm_I G 180 52)) := jf_fr_pI rfl
  have st0 := jf_fr_st f0 stG
  obtain ⟨H1, f1, q1⟩ := s219b (S := S) (x1 := nI A) (x2 := nI B) (x3 := x3) (x4 := x4) 16 0 _ (by omega) st0
  refine ⟨H1, jf_fr_st f1 st0, fun Q => ?_⟩
  rw [u219_129 (st_t180 st), qG]
  simp only [Option.toList_none, List.nil_append]
  rw [u219_132 (st_t180 stG) (by rw [r2]; decide) (by rw [r2, st_l188 stG]; decide) (by rw [r2]; exact st_t188 stG), r2, show Int32.toNatClampNeg 2 = 2 from by decide]
  exact q1 Q
theorem M219 {A B : Nat} {H : jm_H} (st : jm_st H) (hm : js_m H) (hA : A < 2 ^ 8) (hB : B < 2 ^ 8) : ∃ H1, jm_st H1 ∧ ∀ Q, jm_c S 219 [.ref 180, .int (nI A), .int (nI B), .int x3] H Q = Q (some (.int 1)) H1 := by
  obtain ⟨G, fG, qG⟩ := c218 (S := S) st hm
  obtain ⟨g1, g2, g3, g4, g5⟩ := hm
  have stG := jf_fr_st fG st
  have r2 := st_r180_17 st
  have rG := st_r180_17 stG
  have e188 := (fG.2.2.2.2 188 (by decide)).1
  have c0 : Int32.toNatClampNeg 0 = 0 := by decide
  have c1 : Int32.toNatClampNeg 1 = 1 := by decide
  have c3 : Int32.toNatClampNeg 3 = 3 := by decide
  have p8 : (2 : Nat) ^ 8 = 256 := by decide
  have pre : ∀ Q, jm_c S 219 [.ref 180, .int (nI A), .int (nI B), .int x3] H Q = jm_w S 5 219 50 [.ref 180, .int (nI A), .int (nI B), .int x3, .int (nI 8), .null] [.int (if A = 2 ^ 7 then 1 else 0)] G Q := fun Q => by
    rw [en219, u219_0 (st_t180 st) (by rw [r2]; decide) (by rw [r2, st_l188 st]; decide) (by rw [r2]; decide) (by rw [r2]; exact st_t188 st) (by rw [r2, st_l188 st]; decide), r2, c0, c1, g1, g2, c220, if_pos (jr_row_nI (by decide) (by decide) (by decide) hA)]
    simp only [Option.toList_some, List.append_nil]
    rw [u219_20, if_neg i1_0, u219_23 (st_t180 st) (by rw [r2]; decide) (by rw [r2, st_l188 st]; decide) (by rw [r2]; decide) (by rw [r2]; exact st_t188 st), r2, c1, g2, c220, if_pos (jr_row_nI (by decide) (by decide) (by decide) hB)]
    simp only [Option.toList_some, List.append_nil]
    rw [u219_35, if_pos i1_0, u219_40 (st_t180 st), qG]
    simp only [Option.toList_none, List.nil_append]
    rw [u219_44, c204 (by decide) (by decide) (by omega)]
    simp only [Option.toList_some, List.append_nil]
  by_cases hn : A = 2 ^ 7
  · obtain ⟨H1, f1, q1⟩ := s219a (S := S) (x1 := nI A) (x2 := nI B) (x3 := x3) (x4 := nI 8) 18 2 G (by omega) stG
    refine ⟨H1, jf_fr_st f1 stG, fun Q => ?_⟩
    rw [pre, if_pos hn, u219_50, if_pos i1_0, u219_62]
    exact q1 Q
  · by_cases hnB : B = 2 ^ 7
    · obtain ⟨H1, f1, q1⟩ := s219a (S := S) (x1 := nI A) (x2 := nI B) (x3 := x3) (x4 := nI 8) 18 2 G (by omega) stG
      refine ⟨H1, jf_fr_st f1 stG, fun Q => ?_⟩
      rw [pre, if_neg hn, u219_50, if_neg (fun g => g rfl), u219_53, c204 (by decide) (by decide) (by omega), if_pos hnB]
      simp only [Option.toList_some, List.append_nil]
      rw [u219_59, if_neg i1_0, u219_62]
      exact q1 Q
    · obtain ⟨K, fK, zK, qK⟩ := c221 (S := S) stG (fun k h1 h2 => by rw [e188]; exact g3 k h1 h2)
      have stK := jf_fr_st fK stG
      have rK := st_r180_17 stK
      have eK := (fK.2.2.2.2 188 (by decide)).1
      have k1 : jm_I K 188 1 = nI 1 := by rw [eK, e188]; exact g2
      have k3 : jm_I G 188 3 = 0 := by rw [e188]; exact g3 3 (by decide) (by decide)
      have up : ∀ Q, jm_c S 219 [.ref 180, .int (nI A), .int (nI B), .int x3] H Q = jm_w S 5 219 109 [.ref 180, .int (nI A), .int (nI B), .int x3, .int (nI 8), .null] [] K Q := fun Q => by
        rw [pre, if_neg hn, u219_50, if_neg (fun g => g rfl), u219_53, c204 (by decide) (by decide) (by omega), if_neg hnB]
        simp only [Option.toList_some, List.append_nil]
        rw [u219_59, if_pos rfl, u219_93 (st_t180 stG) (by rw [rG]; decide) (by rw [rG, st_l188 stG]; decide) (by rw [rG]; decide) (by rw [rG]; exact st_t188 stG), rG, c3, k3, if_pos (by decide), u219_105 (st_t180 stG), qK]
        simp only [Option.toList_none, List.nil_append]
      by_cases h3 : x3 = 0
      · obtain ⟨H1, st1, q1⟩ := f129 (S := S) (x3 := x3) (x4 := nI 8) (w5 := .null) stK zK hA hB hn hnB (Or.inr rfl)
        refine ⟨H1, st1, fun Q => ?_⟩
        rw [up, u219_109 (st_t180 stK) (by rw [rK]; decide) (by rw [rK, st_l188 stK]; decide) (by rw [rK]; decide) (by rw [rK]; exact st_t188 stK), if_pos h3, rK, c1, k1, u219_128]
        exact q1 Q
      · obtain ⟨H1, st1, q1⟩ := f129 (S := S) (x3 := x3) (x4 := nI 8) (w5 := .null) stK zK hA hB hn hnB (Or.inl rfl)
        refine ⟨H1, st1, fun Q => ?_⟩
        rw [up, u219_109 (st_t180 stK) (by rw [rK]; decide) (by rw [rK, st_l188 stK]; decide) (by rw [rK]; decide) (by rw [rK]; exact st_t188 stK), if_neg h3, rK, c1, k1, u219_124]
        exact q1 Q
theorem M219_no {a b : Int32} (h : ¬ (jr_row 8 1 a ∧ jr_row 8 1 b)) {H : jm_H} (st : jm_st H) (hm : js_m H) {Q : Option Value → jm_H → Prop} : jm_c S 219 [.ref 180, .int a, .int b, .int x3] H Q = Q (some (.int 0)) H := by
  obtain ⟨g1, g2, g3, g4, g5⟩ := hm
  have r2 := st_r180_17 st
  have c0 : Int32.toNatClampNeg 0 = 0 := by decide
  have c1 : Int32.toNatClampNeg 1 = 1 := by decide
  rw [en219, u219_0 (st_t180 st) (by rw [r2]; decide) (by rw [r2, st_l188 st]; decide) (by rw [r2]; decide) (by rw [r2]; exact st_t188 st) (by rw [r2, st_l188 st]; decide), r2, c0, c1, g1, g2, c220]
  simp only [Option.toList_some, List.append_nil]
  rw [u219_20]
  by_cases ha : jr_row 8 1 a
  · have hb : ¬ jr_row 8 1 b := fun g => h ⟨ha, g⟩
    rw [if_pos (show jr_row (nI 8) (nI 1) a from ha), if_neg i1_0, u219_23 (st_t180 st) (by rw [r2]; decide) (by rw [r2, st_l188 st]; decide) (by rw [r2]; decide) (by rw [r2]; exact st_t188 st), r2, c1, g2, c220, if_neg (show ¬ jr_row (nI 8) (nI 1) b from hb)]
    simp only [Option.toList_some, List.append_nil]
    rw [u219_35, if_neg (fun g => g rfl), u219_38]
  · rw [if_neg (show ¬ jr_row (nI 8) (nI 1) a from ha), if_pos rfl, u219_38]
end STOREM
