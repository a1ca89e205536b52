set_option maxRecDepth 20000
/-! the reference rounds: halving -/
theorem jq_c_lt {x y : Nat} : (jI (jq_cmp x y) < (0 : Int32)) = (x < y) := by
  apply propext
  unfold jq_cmp
  by_cases h1 : x < y
  · rw [if_pos h1]; exact ⟨fun _ => h1, fun _ => by decide⟩
  · rw [if_neg h1]
    by_cases h2 : x = y
    · rw [if_pos h2]; exact ⟨fun h => absurd h (by decide), fun h => absurd h h1⟩
    · rw [if_neg h2]; exact ⟨fun h => absurd h (by decide), fun h => absurd h h1⟩
theorem jq_c_eq {x y : Nat} : (jI (jq_cmp x y) = (0 : Int32)) = (x = y) := by
  apply propext
  unfold jq_cmp
  by_cases h1 : x < y
  · rw [if_pos h1]; exact ⟨fun h => absurd h (by decide), fun h => by omega⟩
  · rw [if_neg h1]
    by_cases h2 : x = y
    · rw [if_pos h2]; exact ⟨fun _ => h2, fun _ => by decide⟩
    · rw [if_neg h2]; exact ⟨fun h => absurd h (by decide), fun h => absurd h h2⟩
theorem jq_c_gt {x y : Nat} : ((0 : Int32) < jI (jq_cmp x y)) = (y < x) := by
  apply propext
  unfold jq_cmp
  by_cases h1 : x < y
  · rw [if_pos h1]; exact ⟨fun h => absurd h (by decide), fun h => by omega⟩
  · rw [if_neg h1]
    by_cases h2 : x = y
    · rw [if_pos h2]; exact ⟨fun h => absurd h (by decide), fun h => by omega⟩
    · rw [if_neg h2]; exact ⟨fun _ => by omega, fun _ => by decide⟩
theorem jq_c_le {x y : Nat} : (jI (jq_cmp x y) ≤ (0 : Int32)) = (x ≤ y) := by
  have h := @jq_c_gt x y
  apply propext
  rw [← Int32.not_lt, h]
  omega
theorem jq_c_ge {x y : Nat} : ((0 : Int32) ≤ jI (jq_cmp x y)) = (y ≤ x) := by
  have h := @jq_c_lt x y
  apply propext
  rw [← Int32.not_lt, h]
  omega
theorem nI_addN (a b : Nat) : nI a + nI b = nI (a + b) := by rw [jI_n, jI_n, jI_add, jI_n, Int.natCast_add]
section BIS
variable {S : Option (Nat × (Nat → Int32))} {I : jm_H → Prop} {c : Nat → Nat → Int} {N W a K : Nat}
/-- what is asked of 'against' -/
abbrev jq_ag (S : Option (Nat × (Nat → Int32))) (I : jm_H → Prop) (c : Nat → Nat → Int) (N W : Nat) : Prop := ∀ H n A, I H → (n = N ∨ n = N + 1) → 0 < A → A < 2 ^ (n - 1) → ∃ H1, I H1 ∧ jm_I H1 180 58 = jm_I H 180 58 ∧ ∀ Q, jm_c S 192 [.ref 180, .int (nI n), .int (nI W), .int (nI A)] H Q = Q (some (.int (jI (c n A)))) H1
theorem s190 (h2 : N ≤ 12) (hst : ∀ H, I H → jm_st H) (hc : jq_ag S I c N W) (ha : ∀ A, 0 < A → A < 2 ^ (N - 1) → c N A = jq_cmp a (A * K)) (x5 x6 : Int32) : ∀ (d low top : Nat) (w7 : Value) (H : jm_H), I H → top - low ≤ d → low < top → 0 < low → top < 2 ^ (N - 1) → low * K ≤ a → a ≤ top * K → ∃ H1 low' top' w', I H1 ∧ low' + 1 = top' ∧ 0 < low' ∧ top' < 2 ^ (N - 1) ∧ low' * K ≤ a ∧ a ≤ top' * K ∧ ∀ Q, jm_w S 4 190 65 [.ref 180, .int (nI N), .int (nI W), .int (nI low), .int (nI top), .int x5, .int x6, w7, .null] [] H Q = jm_w S 4 190 105 [.ref 180, .int (nI N), .int (nI W), .int (nI low'), .int (nI top'), .int x5, .int x6, w', .null] [] H1 Q
  | 0, low, top, w7, H, _, hd, hlt, _, _, _, _ => by exfalso; omega
  | d + 1, low, top, w7, H, hI, hd, hlt, h0, ht, hl, hu => by
    have hp := p2_12 h2
    have hh : 2 ^ (N - 1) ≤ 2 ^ 12 := p2_le (by omega)
    by_cases h1 : top - low ≤ 1
    · refine ⟨H, low, top, w7, hI, by omega, h0, ht, hl, hu, fun Q => ?_⟩
      rw [u190_65, pk_sub (by omega), if_pos (show nI (top - low) ≤ (1 : Int32) from (nI_leI (b := 1) (by omega) (by decide)).mpr h1)]
    · have emid : (nI low + nI top) / (2 : Int32) = nI ((low + top) / 2) := by
        rw [nI_addN, show (2 : Int32) = nI 2 from rfl, pk_div (by omega) (by decide) (by decide)]
      obtain ⟨G, iG, _, qG⟩ := hc H N ((low + top) / 2) hI (Or.inl rfl) (by omega) (by omega)
      have hcm := ha ((low + top) / 2) (by omega) (by omega)
      by_cases hm : a < (low + top) / 2 * K
      · obtain ⟨H1, low', top', w', j1, j2, j3, j4, j5, j6, j7⟩ := s190 h2 hst hc ha x5 x6 d low ((low + top) / 2) (.int (nI ((low + top) / 2))) G iG (by omega) (by omega) h0 (by omega) hl (by omega)
        refine ⟨H1, low', top', w', j1, j2, j3, j4, j5, j6, fun Q => ?_⟩
        rw [u190_65, pk_sub (by omega), if_neg (show ¬ nI (top - low) ≤ (1 : Int32) from fun g => h1 ((nI_leI (b := 1) (by omega) (by decide)).mp g)), u190_73 (st_t180 (hst H hI)), emid, qG]
        simp only [Option.toList_some, List.append_nil]
        rw [u190_89, hcm, ite_eqP jq_c_lt, if_pos hm, u190_98, u190_102, j7]
      · obtain ⟨H1, low', top', w', j1, j2, j3, j4, j5, j6, j7⟩ := s190 h2 hst hc ha x5 x6 d ((low + top) / 2) top (.int (nI ((low + top) / 2))) G iG (by omega) (by omega) (by omega) ht (by omega) hu
        refine ⟨H1, low', top', w', j1, j2, j3, j4, j5, j6, fun Q => ?_⟩
        rw [u190_65, pk_sub (by omega), if_neg (show ¬ nI (top - low) ≤ (1 : Int32) from fun g => h1 ((nI_leI (b := 1) (by omega) (by decide)).mp g)), u190_73 (st_t180 (hst H hI)), emid, qG]
        simp only [Option.toList_some, List.append_nil]
        rw [u190_89, hcm, ite_eqP jq_c_lt, if_neg hm, u190_92, u190_102, j7]
theorem c190 {H : jm_H} (h1 : 3 ≤ N) (h2 : N ≤ 12) (hK : 0 < K) (hst : ∀ H, I H → jm_st H) (hpI : ∀ H v, I H → I (jm_pI H 180 58 v)) (hc : jq_ag S I c N W) (ha : ∀ A, 0 < A → A < 2 ^ (N - 1) → c N A = jq_cmp a (A * K)) (hb : ∀ A, 0 < A → A < 2 ^ (N - 1) → c (N + 1) (2 * A + 1) = jq_cmp (2 * a) ((2 * A + 1) * K)) (hI : I H) : ∃ H1, I H1 ∧ jm_I H1 180 58 = jI (jq_R N a K).2 ∧ ∀ Q, jm_c S 190 [.ref 180, .int (nI N), .int (nI W)] H Q = Q (some (.int (nI (jq_R N a K).1))) H1 := by
  have hp := p2_12 h2
  have hh := p2_half (show 1 ≤ N by omega)
  have h4 : 2 ^ 2 ≤ 2 ^ (N - 1) := p2_le (by omega)
  obtain ⟨G1, iG1, _, qG1⟩ := hc H N 1 hI (Or.inl rfl) (by omega) (by omega)
  obtain ⟨G2, iG2, _, qG2⟩ := hc G1 N (2 ^ (N - 1) - 1) iG1 (Or.inl rfl) (by omega) (by omega)
  have c1 := ha 1 (by omega) (by omega)
  have c2 := ha (2 ^ (N - 1) - 1) (by omega) (by omega)
  rw [Nat.one_mul] at c1
  have start : ∀ Q, jm_c S 190 [.ref 180, .int (nI N), .int (nI W)] H Q = if a < K then jm_w S 4 190 39 [.ref 180, .int (nI N), .int (nI W), .int (nI 1), .int (nI (2 ^ (N - 1) - 1)), .int (jI (jq_cmp a K)), .int (jI (jq_cmp a ((2 ^ (N - 1) - 1) * K))), .null, .null] [] G2 Q else if a ≤ (2 ^ (N - 1) - 1) * K then jm_w S 4 190 65 [.ref 180, .int (nI N), .int (nI W), .int (nI 1), .int (nI (2 ^ (N - 1) - 1)), .int (jI (jq_cmp a K)), .int (jI (jq_cmp a ((2 ^ (N - 1) - 1) * K))), .null, .null] [] G2 Q else jm_w S 4 190 39 [.ref 180, .int (nI N), .int (nI W), .int (nI 1), .int (nI (2 ^ (N - 1) - 1)), .int (jI (jq_cmp a K)), .int (jI (jq_cmp a ((2 ^ (N - 1) - 1) * K))), .null, .null] [] G2 Q := by
    intro Q
    rw [en190, u190_0, c191 (by omega) (by omega), nI_1L]
    simp only [Option.toList_some, List.append_nil]
    rw [u190_6 (st_t180 (hst H hI)), nI_1L, pk_sub (by omega), qG1]
    simp only [Option.toList_some, List.append_nil]
    rw [u190_17 (st_t180 (hst G1 iG1)), qG2]
    simp only [Option.toList_some, List.append_nil]
    rw [u190_27, u190_34, c1, c2]
    simp only [jq_c_lt, jq_c_le]
  have e39 : ∀ Q, jm_w S 4 190 39 [.ref 180, .int (nI N), .int (nI W), .int (nI 1), .int (nI (2 ^ (N - 1) - 1)), .int (jI (jq_cmp a K)), .int (jI (jq_cmp a ((2 ^ (N - 1) - 1) * K))), .null, .null] [] G2 Q = if a < K then Q (some (.int (nI 1))) (jm_pI G2 180 58 1) else Q (some (.int (nI (2 ^ (N - 1) - 1)))) (jm_pI G2 180 58 (-1)) := by
    intro Q
    rw [u190_39, ite_eqP jq_c_ge]
    by_cases h : a < K
    · rw [if_neg (by omega), if_pos h, u190_45, u190_50 (st_t180 (hst G2 iG2)), ite_eqP jq_c_ge, if_neg (by omega), u190_58, u190_64]
    · rw [if_pos (by omega), if_neg h, u190_49, u190_50 (st_t180 (hst G2 iG2)), ite_eqP jq_c_ge, if_pos (by omega), u190_62, u190_64]
  unfold jq_R
  by_cases hA : a < K
  · refine ⟨jm_pI G2 180 58 1, hpI _ _ iG2, ?_, fun Q => ?_⟩
    · rw [jm_I_pI, if_pos ⟨rfl, rfl⟩, if_pos hA]; rfl
    · rw [start, if_pos hA, e39, if_pos hA, if_pos hA]
  · by_cases hB : (2 ^ (N - 1) - 1) * K < a
    · refine ⟨jm_pI G2 180 58 (-1), hpI _ _ iG2, ?_, fun Q => ?_⟩
      · rw [jm_I_pI, if_pos ⟨rfl, rfl⟩, if_neg hA, if_pos hB]; rfl
      · rw [start, if_neg hA, if_neg (by omega), e39, if_neg hA, if_neg hA, if_pos hB]
    · rw [if_neg hA, if_neg hB]
      obtain ⟨G3, low, top, w, iG3, hlt, hl0, ht, hl, hu, q3⟩ := s190 h2 hst hc ha (jI (jq_cmp a K)) (jI (jq_cmp a ((2 ^ (N - 1) - 1) * K))) (2 ^ (N - 1)) 1 (2 ^ (N - 1) - 1) .null G2 iG2 (by omega) (by omega) (by omega) (by omega) (by omega) (by omega)
      obtain ⟨G4, iG4, _, qG4⟩ := hc G3 N top iG3 (Or.inl rfl) (by omega) ht
      have c4 := ha top (by omega) ht
      -- the row below
      obtain ⟨L, hL⟩ : ∃ L, L = (if a = top * K then top else low) := ⟨_, rfl⟩
      have hdm := Nat.div_add_mod a K
      have hml := Nat.mod_lt a hK
      have htk : top * K = low * K + K := by rw [← hlt, Nat.add_mul, Nat.one_mul]
      have hLq : L = a / K := by
        rw [hL]
        by_cases h : a = top * K
        · rw [if_pos h, h, Nat.mul_div_cancel _ hK]
        · rw [if_neg h]
          exact (Nat.div_eq_of_lt_le hl (by rw [Nat.add_mul, Nat.one_mul]; omega)).symm
      have hLb : 0 < L ∧ L < 2 ^ (N - 1) := by
        rw [hL]
        split <;> omega
      have e119 : ∀ Q, jm_w S 4 190 105 [.ref 180, .int (nI N), .int (nI W), .int (nI low), .int (nI top), .int (jI (jq_cmp a K)), .int (jI (jq_cmp a ((2 ^ (N - 1) - 1) * K))), w, .null] [] G3 Q = jm_w S 4 190 119 [.ref 180, .int (nI N), .int (nI W), .int (nI L), .int (nI top), .int (jI (jq_cmp a K)), .int (jI (jq_cmp a ((2 ^ (N - 1) - 1) * K))), w, .null] [] G4 Q := by
        intro Q
        rw [u190_105 (st_t180 (hst G3 iG3)), qG4]
        simp only [Option.toList_some, List.append_nil]
        rw [u190_113, c4, ite_eqP (congrArg Not jq_c_eq), hL]
        by_cases h : a = top * K
        · rw [if_neg (fun g => g h), if_pos h, u190_116]
        · rw [if_pos h, if_neg h]
      have iG5 := hpI G4 0 iG4
      obtain ⟨G6, iG6, m6, qG6⟩ := hc _ N L iG5 (Or.inl rfl) hLb.1 hLb.2
      have c6 := ha L hLb.1 hLb.2
      rw [jm_I_pI, if_pos ⟨rfl, rfl⟩] at m6
      have hz : (a = L * K) = (a % K = 0) := by
        apply propext
        rw [hLq, Nat.mul_comm]
        omega
      by_cases h0 : a % K = 0
      · refine ⟨G6, iG6, by rw [m6, if_pos h0]; rfl, fun Q => ?_⟩
        rw [start, if_neg hA, if_pos (by omega), q3, e119, u190_119 (st_t180 (hst G4 iG4)), qG6]
        simp only [Option.toList_some, List.append_nil]
        rw [u190_131, c6, ite_eqP (congrArg Not jq_c_eq), ite_eqP (congrArg Not hz), if_neg (fun g => g h0), u190_134, if_pos h0, hLq]
      · have hL2 : L + 1 < 2 ^ (N - 1) := by
          have hne : ¬ a = top * K := by
            intro h
            apply h0
            rw [h, Nat.mul_mod_left]
          rw [hL, if_neg hne]
          omega
        obtain ⟨G7, iG7, _, qG7⟩ := hc G6 (N + 1) (2 * L + 1) iG6 (Or.inr rfl) (by omega) (by rw [Nat.add_sub_cancel]; omega)
        have c7 := hb L hLb.1 hLb.2
        have e2K : (2 * L + 1) * K = 2 * (L * K) + K := by rw [Nat.add_mul, Nat.one_mul, Nat.mul_assoc]
        have hLK : L * K + a % K = a := by rw [hLq, Nat.mul_comm]; exact hdm
        have zg : ((2 * L + 1) * K < 2 * a) = (K < 2 * (a % K)) := by
          apply propext
          rw [e2K]
          omega
        have ze : (2 * a = (2 * L + 1) * K) = (2 * (a % K) = K) := by
          apply propext
          rw [e2K]
          omega
        have zo : (nI L - nI L / (2 : Int32) * (2 : Int32) = (1 : Int32)) = (L % 2 = 1) := by
          rw [show (2 : Int32) = nI 2 from rfl, pk_rem (by omega) (by decide) (by decide), nI_1L]
          exact propext (nI_eqI (by omega) (by decide))
        have em : ((2 : Int32) * nI L) + (1 : Int32) = nI (2 * L + 1) := by rw [show (2 : Int32) = nI 2 from rfl, pk_mul, nI_succK]
        have upto : ∀ Q, jm_c S 190 [.ref 180, .int (nI N), .int (nI W)] H Q = jm_w S 4 190 149 [.ref 180, .int (nI N), .int (nI W), .int (nI L), .int (nI top), .int (jI (jq_cmp a K)), .int (jI (jq_cmp a ((2 ^ (N - 1) - 1) * K))), w, .null] [.int (jI (jq_cmp (2 * a) ((2 * L + 1) * K)))] G7 Q := by
          intro Q
          rw [start, if_neg hA, if_pos (by omega), q3, e119, u190_119 (st_t180 (hst G4 iG4)), qG6]
          simp only [Option.toList_some, List.append_nil]
          rw [u190_131, c6, ite_eqP (congrArg Not jq_c_eq), ite_eqP (congrArg Not hz), if_pos h0, u190_136 (st_t180 (hst G6 iG6)), em, nI_succK, qG7, c7]
          simp only [Option.toList_some, List.append_nil]
        have up : ∀ x7 Q, jm_w S 4 190 168 [.ref 180, .int (nI N), .int (nI W), .int (nI L), .int (nI top), .int (jI (jq_cmp a K)), .int (jI (jq_cmp a ((2 ^ (N - 1) - 1) * K))), .int x7, .null] [] G7 Q = Q (some (.int (nI (a / K + 1)))) (jm_pI G7 180 58 1) := by
          intro x7 Q
          rw [u190_168, u190_173, if_neg i1_0, u190_181, u190_186 (st_t180 (hst G7 iG7)), if_neg i1_0, u190_194, u190_201, nI_succK, hLq]
        have dn : ∀ x7 Q, jm_w S 4 190 172 [.ref 180, .int (nI N), .int (nI W), .int (nI L), .int (nI top), .int (jI (jq_cmp a K)), .int (jI (jq_cmp a ((2 ^ (N - 1) - 1) * K))), .int x7, .null] [] G7 Q = Q (some (.int (nI (a / K)))) (jm_pI G7 180 58 (-1)) := by
          intro x7 Q
          rw [u190_172, u190_173, if_pos rfl, u190_185, u190_186 (st_t180 (hst G7 iG7)), if_pos rfl, u190_200, u190_201, hLq]
        rw [if_neg h0]
        by_cases hup : K < 2 * (a % K) ∨ 2 * (a % K) = K ∧ a / K % 2 = 1
        · refine ⟨jm_pI G7 180 58 1, hpI _ _ iG7, ?_, fun Q => ?_⟩
          · rw [jm_I_pI, if_pos ⟨rfl, rfl⟩, if_pos hup]; rfl
          · rw [upto, u190_149, ite_eqP jq_c_gt, ite_eqP zg, if_pos hup]
            by_cases g1 : K < 2 * (a % K)
            · rw [if_pos g1, up]
            · have g2 : 2 * (a % K) = K ∧ a / K % 2 = 1 := by
                rcases hup with h | h
                · exact absurd h g1
                · exact h
              rw [if_neg g1, u190_156, ite_eqP (congrArg Not jq_c_eq), ite_eqP (congrArg Not ze), if_neg (fun g => g g2.1), u190_161, ite_eqP (congrArg Not zo), hLq, if_neg (fun g => g g2.2), ← hLq, up, ← hLq]
        · refine ⟨jm_pI G7 180 58 (-1), hpI _ _ iG7, ?_, fun Q => ?_⟩
          · rw [jm_I_pI, if_pos ⟨rfl, rfl⟩, if_neg hup]; rfl
          · rw [upto, u190_149, ite_eqP jq_c_gt, ite_eqP zg, if_neg (fun g => hup (Or.inl g)), u190_156, ite_eqP (congrArg Not jq_c_eq), ite_eqP (congrArg Not ze), if_neg hup]
            by_cases g1 : 2 * (a % K) = K
            · rw [if_neg (fun g => g g1), u190_161, ite_eqP (congrArg Not zo), hLq, if_pos (fun g => hup (Or.inr ⟨g1, g⟩)), ← hLq, dn, ← hLq]
            · rw [if_pos g1, dn]
end BIS
