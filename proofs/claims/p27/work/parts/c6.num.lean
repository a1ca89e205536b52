set_option maxRecDepth 20000
/-! the reference rounds, sums: it comes to an end, whatever the number; what comes is a row -/
def jr_R (B : Nat) (v : Option Value) : Prop := ∃ A : Nat, A ≤ B ∧ v = some (.int (nI A))
def jr_L (N : Nat) (v : Option Value) : Prop := ∃ A : Nat, A < 2 ^ N ∧ v = some (.int (nI A))
section NUM
variable {S : Option (Nat × (Nat → Int32))} {N W : Nat}
theorem t119 {I : jm_H → Prop} {c : Nat → Nat → Int} (h1 : 3 ≤ N) (h2 : N ≤ 12) (hst : ∀ H, I H → jm_st H) (hpI : ∀ H v, I H → I (jm_pI H 180 58 v)) (hc : jq_ag S I c N W) {low : Nat} {x4 x5 x6 : Int32} {w7 : Value} {H : jm_H} (hI : I H) (h0 : 0 < low) (hl : low < 2 ^ (N - 1)) : jz I (jr_R (2 ^ (N - 1))) (fun Q => jm_w S 4 190 119 [.ref 180, .int (nI N), .int (nI W), .int (nI low), .int x4, .int x5, .int x6, w7, .null] [] H Q) := by
  have hp := p2_12 h2
  have hh := p2_half (show 1 ≤ N by omega)
  obtain ⟨G, iG, _, qG⟩ := hc (jm_pI H 180 58 0) N low (hpI _ _ hI) (Or.inl rfl) h0 hl
  refine jz_eq (fun _ => (u190_119 (st_t180 (hst H hI))).trans (qG _)) ?_
  refine jz_eq (fun _ => u190_131) (jz_if (fun _ => ?_) (fun _ => jz_eq (fun _ => u190_134) (jz_end iG ⟨low, by omega, rfl⟩)))
  have em : (2 : Int32) * nI low + 1 = nI (2 * low + 1) := by
    rw [show (2 : Int32) = jI 2 from by decide, show (1 : Int32) = jI 1 from by decide, jI_n low, jI_mul, jI_add, jI_n, show ((2 * low + 1 : Nat) : Int) = 2 * (low : Int) + 1 by omega]
  obtain ⟨G2, iG2, _, qG2⟩ := hc G (N + 1) (2 * low + 1) iG (Or.inr rfl) (by omega) (by rw [show N + 1 - 1 = N by omega]; omega)
  refine jz_eq (fun _ => u190_136 (st_t180 (hst G iG))) ?_
  rw [em, nI_succK]
  refine jz_eq (fun _ => qG2 _) ?_
  have h186 : ∀ {x7 x8 p1 : Int32}, jz I (jr_R (2 ^ (N - 1))) (fun Q => jm_w S 4 190 186 [.ref 180, .int (nI N), .int (nI W), .int (nI low), .int x4, .int x5, .int x6, .int x7, .int x8] [.int p1, .ref 180] G2 Q) := by
    intro x7 x8 p1
    refine jz_eq (fun _ => u190_186 (st_t180 (hst G2 iG2))) (jz_if (fun _ => ?_) (fun _ => ?_))
    · exact jz_eq (fun _ => u190_200.trans u190_201) (jz_end (hpI _ _ iG2) ⟨low, by omega, rfl⟩)
    · refine jz_eq (fun _ => u190_194) ?_
      rw [nI_succK]
      exact jz_eq (fun _ => u190_201) (jz_end (hpI _ _ iG2) ⟨low + 1, by omega, rfl⟩)
  have h173 : ∀ {x7 p0 : Int32}, jz I (jr_R (2 ^ (N - 1))) (fun Q => jm_w S 4 190 173 [.ref 180, .int (nI N), .int (nI W), .int (nI low), .int x4, .int x5, .int x6, .int x7, .null] [.int p0] G2 Q) := by
    intro x7 p0
    exact jz_eq (fun _ => u190_173) (jz_if (fun _ => jz_eq (fun _ => u190_185) h186) (fun _ => jz_eq (fun _ => u190_181) h186))
  have h168 : ∀ {x7 : Int32}, jz I (jr_R (2 ^ (N - 1))) (fun Q => jm_w S 4 190 168 [.ref 180, .int (nI N), .int (nI W), .int (nI low), .int x4, .int x5, .int x6, .int x7, .null] [] G2 Q) := fun {x7} => jz_eq (fun _ => u190_168) h173
  have h172 : ∀ {x7 : Int32}, jz I (jr_R (2 ^ (N - 1))) (fun Q => jm_w S 4 190 172 [.ref 180, .int (nI N), .int (nI W), .int (nI low), .int x4, .int x5, .int x6, .int x7, .null] [] G2 Q) := fun {x7} => jz_eq (fun _ => u190_172) h173
  refine jz_eq (fun _ => u190_149) (jz_if (fun _ => h168) (fun _ => ?_))
  refine jz_eq (fun _ => u190_156) (jz_if (fun _ => h172) (fun _ => ?_))
  exact jz_eq (fun _ => u190_161) (jz_if (fun _ => h172) (fun _ => h168))
theorem t65 {I : jm_H → Prop} {c : Nat → Nat → Int} (h1 : 3 ≤ N) (h2 : N ≤ 12) (hst : ∀ H, I H → jm_st H) (hpI : ∀ H v, I H → I (jm_pI H 180 58 v)) (hc : jq_ag S I c N W) : ∀ (d low top : Nat) {x5 x6 : Int32} {w7 : Value} {H : jm_H}, I H → top - low ≤ d → low < top → 0 < low → top < 2 ^ (N - 1) → jz I (jr_R (2 ^ (N - 1))) (fun Q => jm_w S 4 190 65 [.ref 180, .int (nI N), .int (nI W), .int (nI low), .int (nI top), .int x5, .int x6, w7, .null] [] H Q)
  | 0, low, top, x5, x6, w7, H, hI, hd, hlt, h0, ht => by omega
  | d + 1, low, top, x5, x6, w7, H, hI, hd, hlt, h0, ht => by
    have hp := p2_12 h2
    have hh := p2_half (show 1 ≤ N by omega)
    refine jz_eq (fun _ => u190_65) ?_
    rw [pk_sub (by omega)]
    refine jz_if (fun _ => ?_) (fun g => ?_)
    · obtain ⟨G, iG, _, qG⟩ := hc H N top hI (Or.inl rfl) (by omega) ht
      refine jz_eq (fun _ => (u190_105 (st_t180 (hst H hI))).trans (qG _)) ?_
      refine jz_eq (fun _ => u190_113) (jz_if (fun _ => ?_) (fun _ => ?_))
      · exact t119 h1 h2 hst hpI hc iG h0 (by omega)
      · exact jz_eq (fun _ => u190_116) (t119 h1 h2 hst hpI hc iG (by omega) ht)
    · have g1 : 1 < top - low := by
        have : ¬ top - low ≤ 1 := fun q => g ((nI_leI (b := 1) (by omega) (by decide)).mpr q)
        omega
      have emid : (nI low + nI top) / (2 : Int32) = nI ((low + top) / 2) := by
        rw [nI_addN, show (2 : Int32) = nI 2 from rfl, pk_div (by omega) (by decide) (by decide)]
      obtain ⟨G, iG, _, qG⟩ := hc H N ((low + top) / 2) hI (Or.inl rfl) (by omega) (by omega)
      refine jz_eq (fun _ => u190_73 (st_t180 (hst H hI))) ?_
      rw [emid]
      refine jz_eq (fun _ => qG _) ?_
      refine jz_eq (fun _ => u190_89) (jz_if (fun _ => ?_) (fun _ => ?_))
      · exact jz_eq (fun _ => u190_98.trans u190_102) (t65 h1 h2 hst hpI hc d low ((low + top) / 2) iG (by omega) (by omega) h0 (by omega))
      · exact jz_eq (fun _ => u190_92.trans u190_102) (t65 h1 h2 hst hpI hc d ((low + top) / 2) top iG (by omega) (by omega) (by omega) ht)
theorem t190 {I : jm_H → Prop} {c : Nat → Nat → Int} (h1 : 3 ≤ N) (h2 : N ≤ 12) (hst : ∀ H, I H → jm_st H) (hpI : ∀ H v, I H → I (jm_pI H 180 58 v)) (hc : jq_ag S I c N W) {H : jm_H} (hI : I H) : jz I (jr_R (2 ^ (N - 1))) (fun Q => jm_c S 190 [.ref 180, .int (nI N), .int (nI W)] H Q) := by
  have hp := p2_12 h2
  have hh := p2_half (show 1 ≤ N by omega)
  have h4 : 2 ^ 2 ≤ 2 ^ (N - 1) := p2_le (by omega)
  obtain ⟨G, iG, _, qG⟩ := hc H N 1 hI (Or.inl rfl) (by decide) (by omega)
  obtain ⟨G2, iG2, _, qG2⟩ := hc G N (2 ^ (N - 1) - 1) iG (Or.inl rfl) (by omega) (by omega)
  refine jz_eq (fun _ => en190.trans (u190_0.trans (c191 (by omega) (by omega)))) ?_
  refine jz_eq (fun _ => u190_6 (st_t180 (hst H hI))) ?_
  rw [show (1 : Int32) = nI 1 from rfl, pk_sub (by omega)]
  refine jz_eq (fun _ => qG _) ?_
  refine jz_eq (fun _ => (u190_17 (st_t180 (hst G iG))).trans (qG2 _)) ?_
  have h50 : ∀ {x5 x6 p1 : Int32}, jz I (jr_R (2 ^ (N - 1))) (fun Q => jm_w S 4 190 50 [.ref 180, .int (nI N), .int (nI W), .int (nI 1), .int (nI (2 ^ (N - 1) - 1)), .int x5, .int x6, .null, .null] [.int p1, .ref 180] G2 Q) := by
    intro x5 x6 p1
    refine jz_eq (fun _ => u190_50 (st_t180 (hst G2 iG2))) (jz_if (fun _ => ?_) (fun _ => ?_))
    · exact jz_eq (fun _ => u190_62.trans u190_64) (jz_end (hpI _ _ iG2) ⟨_, by omega, rfl⟩)
    · exact jz_eq (fun _ => u190_58.trans u190_64) (jz_end (hpI _ _ iG2) ⟨1, by omega, rfl⟩)
  have h39 : ∀ {x5 x6 : Int32}, jz I (jr_R (2 ^ (N - 1))) (fun Q => jm_w S 4 190 39 [.ref 180, .int (nI N), .int (nI W), .int (nI 1), .int (nI (2 ^ (N - 1) - 1)), .int x5, .int x6, .null, .null] [] G2 Q) := fun {x5 x6} => jz_eq (fun _ => u190_39) (jz_if (fun _ => jz_eq (fun _ => u190_49) h50) (fun _ => jz_eq (fun _ => u190_45) h50))
  refine jz_eq (fun _ => u190_27) (jz_if (fun _ => h39) (fun _ => ?_))
  refine jz_eq (fun _ => u190_34) (jz_if (fun _ => ?_) (fun _ => h39))
  exact t65 h1 h2 hst hpI hc (2 ^ (N - 1) - 1 - 1) 1 (2 ^ (N - 1) - 1) iG2 (by omega) (by omega) (by decide) (by omega)
/-- with its sign -/
theorem t200 {A : Nat} {its : Int} {H : jm_H} (st : jm_st H) (h1 : 3 ≤ N) (h2 : N ≤ 12) (hA : A ≤ 2 ^ (N - 1)) (hi : j3 its) : ∃ H1, jq_fm H H1 ∧ ∃ B, B < 2 ^ N ∧ ∀ Q, jm_c S 200 [.ref 180, .int (nI N), .int (nI A), .int (jI its)] H Q = Q (some (.int (nI B))) H1 := by
  have hh := p2_half (show 1 ≤ N by omega)
  have hp := Nat.two_pow_pos (N - 1)
  refine ⟨_, jq_fm_I (by decide), if its < 0 then jf_neg N A else A, ?_, c200 st h2 (by omega) (jI_of _) hi⟩
  split
  · exact jf_neg_lt N A
  · omega
/-- a sum rounded, however great -/
theorem t208 {z : Int} {H : jm_H} (st : jm_st H) (h1 : 3 ≤ N) (h2 : N ≤ 12) (hw : W ≤ 2) (hz : jq_sm H z) : jz (jq_fm H) (jr_L N) (fun Q => jm_c S 208 [.ref 180, .int (nI N), .int (nI W)] H Q) := by
  by_cases h0 : z = 0
  · subst h0
    exact jz_eq (fun Q => c208z st hz Q) (jz_end (jq_fm_I (by decide)) ⟨0, Nat.two_pow_pos N, rfl⟩)
  have hits : jq_sg z = -1 ∨ jq_sg z = 1 := by
    unfold jq_sg
    by_cases h : z < 0
    · rw [if_pos h]; exact Or.inl rfl
    · rw [if_neg h, if_neg h0]; exact Or.inr rfl
  have fG : jq_fm H (jm_pI (jm_pI H 180 58 0) 180 53 0) := jq_fm_trans (jq_fm_I (by decide)) (jq_fm_I (by decide))
  have stG := jq_fm_st fG st
  have h52 : jm_I (jm_pI (jm_pI H 180 58 0) 180 53 0) 180 52 = jI (jq_sg z) := by
    rw [jm_I_pI, if_neg (by omega), jm_I_pI, if_neg (by omega)]
    exact hz.1
  have iG : jq_IS (jm_pI (jm_pI H 180 58 0) 180 53 0) z.natAbs (jm_pI (jm_pI H 180 58 0) 180 53 0) := by
    refine ⟨stG, jq_fm_refl _, ?_, rfl, ?_⟩
    · rw [jm_I_pI, if_pos ⟨rfl, rfl⟩]
    · exact jq_dg_fr (P := fun q => q = 180) (jf_fr_trans (jf_fr_pI rfl) (jf_fr_pI rfl)) (by decide) hz.2
  have h : jm_I (jm_pI H 180 58 (0 : Int32)) 180 52 = jI (jq_sg z) := by
    rw [jm_I_pI, if_neg (by omega)]
    exact hz.1
  have hn : ¬ jI (jq_sg z) = (0 : Int32) := by rcases hits with h | h <;> rw [h] <;> decide
  refine jz_eq (fun _ => en208.trans (u208_0 (st_t180 st))) ?_
  rw [h]
  refine jz_if (fun _ => ?_) (fun c => absurd hn c)
  refine jz_eq (fun _ => u208_14 (st_t180 (jq_fm_st (jq_fm_I (by decide)) st))) ?_
  refine jz_call (t190 (S := S) h1 h2 (fun H h => h.1) (fun H v h => ⟨jq_fm_st (jq_fm_I (by decide)) h.1, jq_fm_trans h.2.1 (jq_fm_I (by decide)), by rw [jm_I_pI, if_neg (by omega)]; exact h.2.2.1, by rw [jm_I_pI, if_neg (by omega)]; exact h.2.2.2.1, jq_dg_fr (P := fun q => q = 180) (jf_fr_pI rfl) (by decide) h.2.2.2.2⟩) (a192S h1 h2 hw) iG) (fun v H1 i1 hv => ?_)
  obtain ⟨A, hA, rfl⟩ := hv
  have s1 : jm_I H1 180 52 = jI (jq_sg z) := by rw [i1.2.2.2.1]; exact h52
  obtain ⟨H2, f2, B, hB, q2⟩ := t200 (S := S) (its := jq_sg z) i1.1 h1 h2 hA ⟨by omega, by omega⟩
  refine jz_eq (fun _ => u208_27 (st_t180 i1.1) (st_t180 i1.1)) ?_
  rw [s1]
  refine jz_eq (fun _ => q2 _) ?_
  exact jz_eq (fun _ => u208_34) (jz_end (jq_fm_trans fG (jq_fm_trans i1.2.1 f2)) ⟨B, hB, rfl⟩)
/-- the row of a whole number -/
theorem t188 {v : Int32} {H : jm_H} (st : jm_st H) (h1 : 3 ≤ N) (h2 : N ≤ 12) (hw : W ≤ 2) (hv0 : 0 ≤ v.toInt) (hv : v.toInt ≤ 9999) : jz (jq_fm H) (jr_L N) (fun Q => jm_c S 188 [.ref 180, .int (nI N), .int (nI W), .int v] H Q) := by
  obtain ⟨V, hV, rfl⟩ := ji_nn (k := 10000) hv0 (by omega)
  have t0 := st_t180 st
  refine jz_eq (fun _ => en188.trans (u188_0 t0)) ?_
  rw [nI_l (by omega)]
  by_cases h0 : V = 0
  · subst h0
    refine jz_eq (fun _ => c189z (um := 1) (op := 0) (uq := 0) (its := 1) st _) ?_
    exact jz_eq (fun _ => u188_12) (jz_end (jq_fm_I (by decide)) ⟨0, Nat.two_pow_pos N, rfl⟩)
  have hl : ¬ lg_cmp (lN V) 0 = 0 := by
    rw [lg_cmp_eq]
    intro g
    exact h0 ((lN_eqS (b := 0) (by omega) (by decide)).mp g)
  refine jz_eq (fun _ => en189.trans (u189_0 t0)) (jz_if (fun _ => ?_) (fun c => absurd hl c))
  have f1 : jq_fm H (jm_pI H 180 58 0) := jq_fm_I (by decide)
  have fG : jq_fm H (jm_pI (jm_pL (jm_pI (jm_pL (jm_pI (jm_pI H 180 58 0) 180 53 1) 180 54 (lN V)) 180 55 0) 180 56 1) 180 57 0) := jq_fm_trans (jq_fm_trans (jq_fm_trans (jq_fm_trans (jq_fm_trans f1 (jq_fm_I (by decide))) jq_fm_L) (jq_fm_I (by decide))) jq_fm_L) (jq_fm_I (by decide))
  have stG := jq_fm_st fG st
  have iG : jq_IQ H V 0 1 0 (jm_pI (jm_pL (jm_pI (jm_pL (jm_pI (jm_pI H 180 58 0) 180 53 1) 180 54 (lN V)) 180 55 0) 180 56 1) 180 57 0) := by
    refine ⟨stG, fG, ?_, ?_, ?_, ?_, ?_⟩
    · simp only [jm_I_pI, jm_I_pL, Nat.reduceEqDiff, true_and, and_self, if_false, if_true]
    · simp only [jm_L_pI, jm_L_pL, Nat.reduceEqDiff, true_and, and_self, if_false, if_true]
    · simp only [jm_I_pI, jm_I_pL, Nat.reduceEqDiff, true_and, and_self, if_false, if_true]; rfl
    · simp only [jm_L_pI, jm_L_pL, Nat.reduceEqDiff, true_and, and_self, if_false, if_true]; rfl
    · simp only [jm_I_pI, jm_I_pL, Nat.reduceEqDiff, true_and, and_self, if_false, if_true]; rfl
  have pIQ : ∀ (H' : jm_H) (v : Int32), jq_IQ H V 0 1 0 H' → jq_IQ H V 0 1 0 (jm_pI H' 180 58 v) := fun H' v h => ⟨jq_fm_st (jq_fm_I (by decide)) h.1, jq_fm_trans h.2.1 (jq_fm_I (by decide)), by rw [jm_I_pI, if_neg (by omega)]; exact h.2.2.1, h.2.2.2.1, by rw [jm_I_pI, if_neg (by omega)]; exact h.2.2.2.2.1, h.2.2.2.2.2.1, by rw [jm_I_pI, if_neg (by omega)]; exact h.2.2.2.2.2.2⟩
  refine jz_eq (fun _ => u189_13 (st_t180 (jq_fm_st f1 st))) ?_
  refine jz_call (t190 (S := S) h1 h2 (fun H h => h.1) pIQ (a192Q h1 h2 hw (by omega) (by omega) (by decide) (by decide) (by decide) (by decide)) iG) (fun v H1 i1 hv => ?_)
  obtain ⟨A, hA, rfl⟩ := hv
  obtain ⟨H2, f2, B, hB, q2⟩ := t200 (S := S) (its := 1) i1.1 h1 h2 hA (by decide)
  refine jz_eq (fun _ => (u189_49 (st_t180 i1.1)).trans (q2 _)) ?_
  exact jz_eq (fun _ => u189_54.trans u188_12) (jz_end (jq_fm_trans i1.2.1 f2) ⟨B, hB, rfl⟩)
end NUM
