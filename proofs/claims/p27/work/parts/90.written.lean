set_option maxRecDepth 20000
/-! a row in decimals, asked of both -/
def jq_ls (N W A : Nat) : List Nat := if A = 2 ^ (N - 1) then [110, 105, 108] else if A = 0 then [48] else (if A < 2 ^ (N - 1) then [] else [45]) ++ jq_wuM (jf_mant N W (jf_bare N A)) (jf_pow N W (jf_bare N A))
/-- byte i, or how many -/
def jq_by (L : List Nat) (i : Int32) : Int32 := if i = -1 then nI L.length else if 0 ≤ i.toInt ∧ i.toInt < L.length then nI (L.getD i.toInt.toNat 0) else -1
theorem jq_wc_fr {P : Nat → Prop} {H H1 : jm_H} {L : List Nat} (f : jf_fr P H H1) (h1 : ¬ P 25) (h2 : ¬ P 26) (h : jq_wc H L) : jq_wc H1 L := ⟨by rw [(f.2.2.2.2 25 h1).1]; exact h.1, fun i c hc => by rw [(f.2.2.2.2 26 h2).1]; exact h.2 i c hc⟩
section WRT
variable {N W : Nat}
theorem c119_n {H : jm_H} (st : jm_st H) (hi : jq_is H 27 none) : ∃ H1, jq_wc H1 [110, 105, 108] ∧ jf_fr jq_PW H H1 ∧ ∀ Q, jm_c none 119 [.ref 25, .ref 27] H Q = Q none H1 := by
  have f0 : jf_fr jq_PW H (jm_pI H 25 1 0) := jf_fr_pI (Or.inl rfl)
  have st0 := jf_fr_st f0 st
  have w0 : jq_wc (jm_pI H 25 1 0) [] := ⟨by rw [jm_I_pI, if_pos ⟨rfl, rfl⟩]; rfl, fun i c hc => by cases hc⟩
  obtain ⟨H1, w1, f1, q1⟩ := c120 (c := 110) st0 w0 (by decide) (by decide)
  have st1 := jf_fr_st f1 st0
  obtain ⟨H2, w2, f2, q2⟩ := c120 (c := 105) st1 w1 (by decide) (by decide)
  have st2 := jf_fr_st f2 st1
  obtain ⟨H3, w3, f3, q3⟩ := c120 (c := 108) st2 w2 (by decide) (by decide)
  refine ⟨H3, w3, jf_fr_trans f0 (jf_fr_trans f1 (jf_fr_trans f2 f3)), fun Q => ?_⟩
  have h27 : jm_I (jm_pI H 25 1 (0 : Int32)) 27 1 = 1 := by
    rw [jm_I_pI, if_neg (by omega)]
    exact hi
  rw [en119, u119_0 (st_t25 st) (st_t27 st), h27, if_neg i1_0, u119_12 (st_t25 st0), show (110 : Int32) = nI 110 from rfl, q1]
  simp only [Option.toList_none, List.nil_append]
  rw [u119_18 (st_t25 st1), show (105 : Int32) = nI 105 from rfl, q2]
  simp only [Option.toList_none, List.nil_append]
  rw [u119_24 (st_t25 st2), show (108 : Int32) = nI 108 from rfl, q3]
  simp only [Option.toList_none, List.nil_append]
  rw [u119_30]
theorem c119 {s : Int} {m : Nat} {p : Int} {H : jm_H} (st : jm_st H) (hi : jq_is H 27 (some (s, m, p))) (hs : s = -1 ∨ s = 0 ∨ s = 1) (hm : m < 2 ^ 11) (hp : -48 ≤ p ∧ p ≤ 48) (hV : m * 2 ^ (max 0 (min p 48)).toNat < 2 ^ 45) (hl : (jq_wuC m p).length ≤ 70) : ∃ H1, jq_wc H1 ((if s < 0 then [45] else []) ++ jq_wuC m p) ∧ jf_fr jq_PW H H1 ∧ ∀ Q, jm_c none 119 [.ref 25, .ref 27] H Q = Q none H1 := by
  have f0 : jf_fr jq_PW H (jm_pI H 25 1 0) := jf_fr_pI (Or.inl rfl)
  have st0 := jf_fr_st f0 st
  have w0 : jq_wc (jm_pI H 25 1 0) [] := ⟨by rw [jm_I_pI, if_pos ⟨rfl, rfl⟩]; rfl, fun i c hc => by cases hc⟩
  have i0 : jq_is (jm_pI H 25 1 0) 27 (some (s, m, p)) := jq_is_fr f0 (by decide) hi
  have z27 : jm_I (jm_pI H 25 1 (0 : Int32)) 27 1 = 0 := i0.1
  have s27 : jm_I (jm_pI H 25 1 (0 : Int32)) 27 2 = jI s := i0.2.1
  -- the sign
  obtain ⟨G, wG, fG, qG⟩ : ∃ G, jq_wc G (if s < 0 then [45] else []) ∧ jf_fr jq_PW (jm_pI H 25 1 0) G ∧ ∀ Q, jm_c none 119 [.ref 25, .ref 27] H Q = jm_w none 3 119 44 [.ref 25, .ref 27, .null, .null, .null, .null, .null, .null, .null] [] G Q := by
    have start : ∀ Q, jm_c none 119 [.ref 25, .ref 27] H Q = if 0 ≤ s then jm_w none 3 119 44 [.ref 25, .ref 27, .null, .null, .null, .null, .null, .null, .null] [] (jm_pI H 25 1 0) Q else jm_w none 3 119 38 [.ref 25, .ref 27, .null, .null, .null, .null, .null, .null, .null] [] (jm_pI H 25 1 0) Q := by
      intro Q
      rw [en119, u119_0 (st_t25 st) (st_t27 st), z27, if_pos rfl, u119_31 (st_t27 st0), s27, jI_0, if_leI (by decide) ⟨by omega, by omega⟩]
    by_cases h : s < 0
    · obtain ⟨G, wG, fG, qG⟩ := c120 (c := 45) st0 w0 (by decide) (by decide)
      refine ⟨G, by rw [if_pos h]; exact wG, fG, fun Q => ?_⟩
      rw [start, if_neg (by omega), u119_38 (st_t25 st0), show (45 : Int32) = nI 45 from rfl, qG]
      simp only [Option.toList_none, List.nil_append]
    · exact ⟨_, by rw [if_neg h]; exact w0, jf_fr_refl _, fun Q => by rw [start, if_pos (by omega)]⟩
  have stG := jf_fr_st fG st0
  have iG : jq_is G 27 (some (s, m, p)) := jq_is_fr fG (by decide) i0
  have lG : (if s < 0 then [45] else ([] : List Nat)).length ≤ 1 := by split <;> decide
  generalize (if s < 0 then [45] else ([] : List Nat)) = L at wG lG ⊢
  unfold jq_wuC jq_wl at hl ⊢
  obtain ⟨K, hK⟩ : ∃ K : Nat, max 0 (min (-p) 48) = (K : Int) := ⟨(max 0 (min (-p) 48)).toNat, by omega⟩
  obtain ⟨U, hU⟩ : ∃ U : Nat, max 0 (min p 48) = (U : Int) := ⟨(max 0 (min p 48)).toNat, by omega⟩
  rw [hU, Int.toNat_natCast] at hV hl ⊢
  rw [hK, Int.toNat_natCast] at hl ⊢
  rw [List.length_append] at hl
  have hK48 : K ≤ 48 := by omega
  have hU48 : U ≤ 48 := by omega
  have hdv : m * 2 ^ U / 2 ^ K ≤ m * 2 ^ U := Nat.div_le_self _ _
  have hrlt : m % 2 ^ K < 2 ^ K := Nat.mod_lt _ (p2_pos K)
  have hrle : m % 2 ^ K ≤ m := Nat.mod_le _ _
  obtain ⟨H1, w1, f1, q1⟩ := c121 (V := m * 2 ^ U / 2 ^ K) stG (by omega) wG (by omega)
  have st1 := jf_fr_st f1 stG
  have i1 : jq_is H1 27 (some (s, m, p)) := jq_is_fr f1 (by decide) iG
  -- what is behind the point
  obtain ⟨H2, w2, f2, q2⟩ : ∃ H2, jq_wc H2 (L ++ jq_dgs 18 (jq_u10 17 1 (m * 2 ^ U / 2 ^ K)) (m * 2 ^ U / 2 ^ K) ++ (if m % 2 ^ K = 0 then [] else 46 :: jq_fd 64 K (m % 2 ^ K))) ∧ jf_fr jq_PW H1 H2 ∧ ∀ Q, jm_w none 3 119 85 [.ref 25, .ref 27, .int (nI K), .int (nI U), .null, .null, .null, .null, .null] [] H1 Q = Q none H2 := by
    have emask : ((1 : Int64) <<< (Int32.toInt64 (nI K) &&& 63)) - (1 : Int64) = lN (2 ^ K - 1) := by rw [lN_p2 (by omega), lN_1L, lN_sub (p2_pos K)]
    have erest : lN m &&& lN (2 ^ K - 1) = lN (m % 2 ^ K) := by rw [lN_and, Nat.and_two_pow_sub_one_eq_mod]
    have cz : (lg_cmp (lN (m % 2 ^ K)) (0 : Int64) = 0) = (m % 2 ^ K = 0) := by rw [lg_cmp0]; exact propext (lN_eqS (b := 0) (by omega) (by decide))
    have start : ∀ Q, jm_w none 3 119 85 [.ref 25, .ref 27, .int (nI K), .int (nI U), .null, .null, .null, .null, .null] [] H1 Q = if m % 2 ^ K = 0 then jm_w none 3 119 114 [.ref 25, .ref 27, .int (nI K), .int (nI U), .long (lN (2 ^ K - 1)), .null, .long (lN (m % 2 ^ K)), .null, .null] [] H1 Q else jm_w none 3 119 108 [.ref 25, .ref 27, .int (nI K), .int (nI U), .long (lN (2 ^ K - 1)), .null, .long (lN (m % 2 ^ K)), .null, .null] [] H1 Q := by
      intro Q
      rw [u119_85 (st_t27 st1), i1.2.2.1, emask, erest, ite_eqP cz]
    by_cases h0 : m % 2 ^ K = 0
    · obtain ⟨H2, w2, f2, q2⟩ := s119 hK48 (up := nI U) K 0 0 K (L ++ jq_dgs 18 (jq_u10 17 1 (m * 2 ^ U / 2 ^ K)) (m * 2 ^ U / 2 ^ K)) H1 (by omega) (p2_pos K) (by rw [Nat.zero_mod]) (Nat.le_refl K) st1 w1 (by rw [jq_fd0, List.length_append]; show _ + 0 ≤ 80; omega)
      rw [jq_fd0] at w2
      refine ⟨H2, by rw [if_pos h0]; exact w2, f2, fun Q => ?_⟩
      rw [start, if_pos h0, h0, u119_114]
      exact q2 Q
    · rw [if_neg h0, List.length_cons] at hl
      obtain ⟨G2, wG2, fG2, qG2⟩ := c120 (c := 46) st1 w1 (by rw [List.length_append]; omega) (by decide)
      have stG2 := jf_fr_st fG2 st1
      obtain ⟨H2, w2, f2, q2⟩ := s119 hK48 (up := nI U) K 0 (m % 2 ^ K) 64 (L ++ jq_dgs 18 (jq_u10 17 1 (m * 2 ^ U / 2 ^ K)) (m * 2 ^ U / 2 ^ K) ++ [46]) G2 (by omega) hrlt (by rw [Nat.pow_zero, Nat.mod_one]) (by omega) stG2 wG2 (by rw [List.length_append, List.length_append, List.length_singleton]; omega)
      refine ⟨H2, by rw [if_neg h0, List.append_cons]; exact w2, jf_fr_trans fG2 f2, fun Q => ?_⟩
      rw [start, if_neg h0, u119_108 (st_t25 st1), show (46 : Int32) = nI 46 from rfl, qG2]
      simp only [Option.toList_none, List.nil_append]
      rw [u119_114]
      exact q2 Q
  refine ⟨H2, by rw [← List.append_assoc]; exact w2, jf_fr_trans f0 (jf_fr_trans fG (jf_fr_trans f1 f2)), fun Q => ?_⟩
  have e48 : (48 : Int32) = jI 48 := by decide
  rw [qG, u119_44 (st_t27 stG), iG.2.2.2, jI_neg, e48, c57 ⟨by dsimp only; omega, by dsimp only; omega⟩ (by decide)]
  simp only [Option.toList_some, List.cons_append, List.nil_append]
  rw [u119_55, jI_0, c74 (by decide) ⟨by omega, by omega⟩, hK, ← jI_n]
  simp only [Option.toList_some, List.append_nil]
  rw [u119_58 (st_t27 stG), iG.2.2.2, e48, c57 ⟨by dsimp only; omega, by dsimp only; omega⟩ (by decide)]
  simp only [Option.toList_some, List.cons_append, List.nil_append]
  rw [u119_69, jI_0, c74 (by decide) ⟨by omega, by omega⟩, hU, ← jI_n]
  simp only [Option.toList_some, List.append_nil]
  rw [u119_72 (st_t27 stG) (st_t25 stG), iG.2.2.1, lN_shl _ (by omega), lN_shr (by dsimp only; omega) (by omega)]
  show jm_c none 121 [.ref 25, .long (lN (m * 2 ^ U / 2 ^ K))] G _ = _
  rw [q1]
  simp only [Option.toList_none, List.nil_append]
  exact q2 Q
/-- the reference's row of signs -/
theorem c238 {A : Nat} {H : jm_H} (st : jm_st H) (h1 : 3 ≤ N) (h2 : N ≤ 12) (hw : W ≤ 2) (hA : A < 2 ^ N) : ∃ H1, jq_wm H1 (jq_ls N W A) ∧ jq_fn H H1 ∧ ∀ Q, jm_c none 238 [.ref 180, .int (nI N), .int (nI W), .int (nI A)] H Q = Q none H1 := by
  have hpp := p2_12 h2
  have f0 : jq_fn H (jm_pI H 180 60 0) := ⟨jf_fr_pI (Or.inl rfl), fun k hk => by rw [jm_I_pI, if_neg (by omega)]⟩
  have st0 := jq_fn_st f0 st
  have w0 : jq_wm (jm_pI H 180 60 0) [] := ⟨by rw [jm_I_pI, if_pos ⟨rfl, rfl⟩]; rfl, fun i c hc => by cases hc⟩
  have start : ∀ Q, jm_c none 238 [.ref 180, .int (nI N), .int (nI W), .int (nI A)] H Q = jm_w none 4 238 10 [.ref 180, .int (nI N), .int (nI W), .int (nI A), .null, .null, .null, .null] [.int (if A = 2 ^ (N - 1) then 1 else 0)] (jm_pI H 180 60 0) Q := by
    intro Q
    rw [en238, u238_0 (st_t180 st), c204 (by omega) (by omega) (by omega)]
    simp only [Option.toList_some, List.append_nil]
  by_cases hn : A = 2 ^ (N - 1)
  · obtain ⟨H1, w1, f1, q1⟩ := c239 (c := 110) st0 w0 (by decide)
    have st1 := jq_fw_st f1 st0
    obtain ⟨H2, w2, f2, q2⟩ := c239 (c := 105) st1 w1 (by decide)
    have st2 := jq_fw_st f2 st1
    obtain ⟨H3, w3, f3, q3⟩ := c239 (c := 108) st2 w2 (by decide)
    refine ⟨H3, by unfold jq_ls; rw [if_pos hn]; exact w3, jq_fn_trans f0 (jq_fw_n (jq_fw_trans f1 (jq_fw_trans f2 f3))), fun Q => ?_⟩
    rw [start, if_pos hn, u238_10, if_neg i1_0, u238_13 (st_t180 st0), show (110 : Int32) = nI 110 from rfl, q1]
    simp only [Option.toList_none, List.nil_append]
    rw [u238_19 (st_t180 st1), show (105 : Int32) = nI 105 from rfl, q2]
    simp only [Option.toList_none, List.nil_append]
    rw [u238_25 (st_t180 st2), show (108 : Int32) = nI 108 from rfl, q3]
    simp only [Option.toList_none, List.nil_append]
    rw [u238_31]
  · have z0 := jq_isz (show A < 4096 by omega)
    by_cases h0 : A = 0
    · obtain ⟨H1, w1, f1, q1⟩ := c239 (c := 48) st0 w0 (by decide)
      refine ⟨H1, by unfold jq_ls; rw [if_neg hn, if_pos h0]; exact w1, jq_fn_trans f0 (jq_fw_n f1), fun Q => ?_⟩
      rw [start, if_neg hn, u238_10, if_pos rfl, u238_32, ite_eqP (congrArg Not z0), if_neg (fun g => g h0), u238_36 (st_t180 st0), show (48 : Int32) = nI 48 from rfl, q1]
      simp only [Option.toList_none, List.nil_append]
      rw [u238_42]
    · obtain ⟨b1, b2⟩ := jf_bare_pos (show 1 ≤ N by omega) hA h0 hn
      obtain ⟨m1, m2, p1, p2⟩ := jq_row_b h1 (by omega) hw b1 b2
      obtain ⟨_, _, _, hsc⟩ := jq_row h1 (show N ≤ 13 by omega) hw b1 b2
      obtain ⟨_, hlen, _⟩ := jq_d_all h1 h2 hw b1 b2
      have hs := jf_sgn_1 (N := N) h0 hn
      have els : jq_ls N W A = (if A < 2 ^ (N - 1) then [] else [45]) ++ jq_wuM (jf_mant N W (jf_bare N A)) (jf_pow N W (jf_bare N A)) := by
        unfold jq_ls
        rw [if_neg hn, if_neg h0]
      rw [els]
      -- the sign
      obtain ⟨G, wG, fG, qG⟩ : ∃ G, jq_wm G (if A < 2 ^ (N - 1) then [] else [45]) ∧ jq_fw (jm_pI H 180 60 0) G ∧ ∀ Q, jm_c none 238 [.ref 180, .int (nI N), .int (nI W), .int (nI A)] H Q = jm_w none 4 238 57 [.ref 180, .int (nI N), .int (nI W), .int (nI A), .null, .null, .null, .null] [] G Q := by
        have go : ∀ Q, jm_c none 238 [.ref 180, .int (nI N), .int (nI W), .int (nI A)] H Q = if 0 ≤ jf_sgn N A then jm_w none 4 238 57 [.ref 180, .int (nI N), .int (nI W), .int (nI A), .null, .null, .null, .null] [] (jm_pI H 180 60 0) Q else jm_w none 4 238 51 [.ref 180, .int (nI N), .int (nI W), .int (nI A), .null, .null, .null, .null] [] (jm_pI H 180 60 0) Q := by
          intro Q
          rw [start, if_neg hn, u238_10, if_pos rfl, u238_32, ite_eqP (congrArg Not z0), if_pos h0, u238_43, c206 (by omega) h2 hA]
          simp only [Option.toList_some, List.append_nil]
          rw [u238_48, jI_0, if_leI (by decide) ⟨by rw [hs]; split <;> decide, by rw [hs]; split <;> decide⟩]
        by_cases h : A < 2 ^ (N - 1)
        · exact ⟨_, by rw [if_pos h]; exact w0, jq_fw_refl _, fun Q => by rw [go, if_pos (by rw [hs, if_pos h]; decide)]⟩
        · obtain ⟨G, wG, fG, qG⟩ := c239 (c := 45) st0 w0 (by decide)
          refine ⟨G, by rw [if_neg h]; exact wG, fG, fun Q => ?_⟩
          rw [go, if_neg (by rw [hs, if_neg h]; decide), u238_51 (st_t180 st0), show (45 : Int32) = nI 45 from rfl, qG]
          simp only [Option.toList_none, List.nil_append]
      have stG := jq_fw_st fG st0
      have lG : (if A < 2 ^ (N - 1) then ([] : List Nat) else [45]).length ≤ 1 := by split <;> decide
      generalize (if A < 2 ^ (N - 1) then ([] : List Nat) else [45]) = L at wG lG ⊢
      have fo := jq_fm_open (H := G) N W (jf_bare N A)
      have sto := jq_fm_st fo stG
      have em : jm_I (jf_open 180 N W (jf_bare N A) G) 180 48 = nI (jf_mant N W (jf_bare N A)) := jf_open_m _ _ _
      have ep : jm_I (jf_open 180 N W (jf_bare N A) G) 180 49 = jI (jf_pow N W (jf_bare N A)) := jf_open_p _ _ _
      have wo : jq_wm (jf_open 180 N W (jf_bare N A) G) L := ⟨by rw [jf_open_o _ _ _ _ (by decide)]; exact wG.1, fun i c hc => by rw [jf_open_I _ _ _ _ _ (by decide)]; exact wG.2 i c hc⟩
      have go : ∀ Q, jm_c none 238 [.ref 180, .int (nI N), .int (nI W), .int (nI A)] H Q = jm_w none 4 238 64 [.ref 180, .int (nI N), .int (nI W), .int (nI A), .null, .null, .null, .null] [] (jf_open 180 N W (jf_bare N A) G) Q := by
        intro Q
        rw [qG, u238_57 (st_t180 stG), c193 (st_t180 stG) h1 (by omega) hw hA]
        simp only [Option.toList_none, List.nil_append]
      have fall : jq_fn H (jf_open 180 N W (jf_bare N A) G) := jq_fn_trans f0 (jq_fn_trans (jq_fw_n fG) (jq_fn_of fo))
      have lgm : jf_mant N W (jf_bare N A) < 2 ^ (Nat.log2 (jf_mant N W (jf_bare N A)) + 1) := Nat.lt_log2_self
      generalize jf_open 180 N W (jf_bare N A) G = B at *
      generalize jf_mant N W (jf_bare N A) = m at *
      generalize jf_pow N W (jf_bare N A) = p at *
      have tB := st_t180 sto
      unfold jq_wuM at hlen ⊢
      by_cases hpn : p < 0
      · obtain ⟨k, hk, rfl⟩ : ∃ k : Nat, (1 ≤ k ∧ k ≤ 44) ∧ p = -(k : Int) := ⟨(-p).toNat, by omega, by omega⟩
        rw [if_pos hpn, Int.neg_neg, Int.toNat_natCast] at hlen ⊢
        unfold jq_wl at hlen ⊢
        rw [List.length_append] at hlen
        have hkp := p2_pos k
        have hk44 : 2 ^ k ≤ 2 ^ 44 := p2_le hk.2
        have hdl : m / 2 ^ k ≤ m := Nat.div_le_self _ _
        have hrlt : m % 2 ^ k < 2 ^ k := Nat.mod_lt _ hkp
        have hrle : m % 2 ^ k ≤ m := Nat.mod_le _ _
        have hun : ¬ lN (2 ^ k) = (0 : Int64) := fun h => by
          have := (lN_eqS (b := 0) (by omega) (by decide)).mp h
          omega
        have eu : (1 : Int64) <<< (Int32.toInt64 (-(jI (-(k : Int)))) &&& 63) = lN (2 ^ k) := by rw [jI_neg, Int.neg_neg, ← jI_n, lN_p2 (by omega)]
        obtain ⟨H1, w1, f1, q1⟩ := c240 (V := m / 2 ^ k) sto (by omega) wo (by omega)
        have stA := jq_fw_st f1 sto
        have em1 : jm_I H1 180 48 = nI m := by rw [f1.2 48 (by decide)]; exact em
        have erm : lN m - lN m / lN (2 ^ k) * lN (2 ^ k) = lN (m % 2 ^ k) := pk_lRem (by omega) hkp (by omega)
        have cl : (lg_cmp (lN (m % 2 ^ k)) (0 : Int64) ≤ 0) = (m % 2 ^ k = 0) := by
          rw [lg_cmp_le, lN_0L]
          apply propext
          rw [lN_leS (by omega) (by decide)]
          omega
        have upto : ∀ Q, jm_c none 238 [.ref 180, .int (nI N), .int (nI W), .int (nI A)] H Q = if m % 2 ^ k = 0 then jm_w none 4 238 130 [.ref 180, .int (nI N), .int (nI W), .int (nI A), .long (lN (2 ^ k)), .null, .long (lN (m % 2 ^ k)), .null] [] H1 Q else jm_w none 4 238 124 [.ref 180, .int (nI N), .int (nI W), .int (nI A), .long (lN (2 ^ k)), .null, .long (lN (m % 2 ^ k)), .null] [] H1 Q := by
          intro Q
          rw [go, u238_64 tB, ep, jI_0, if_ltI ⟨by omega, by omega⟩ (by decide), if_pos hpn, u238_86 tB (by rw [ep, eu]; exact hun), ep, em, nI_l (by omega), eu, pk_lDiv (by omega) hkp (by omega), q1]
          simp only [Option.toList_none, List.nil_append]
          rw [u238_107 (st_t180 stA) hun, em1, nI_l (by omega), erm, ite_eqP cl]
        by_cases hz : m % 2 ^ k = 0
        · obtain ⟨H2, w2, f2, q2⟩ := s238 (show k ≤ 48 by omega) (n := nI N) (w := nI W) (a := nI A) k 0 0 k (L ++ jq_dgs 18 (jq_u10 17 1 (m / 2 ^ k)) (m / 2 ^ k)) H1 (by omega) hkp (by rw [Nat.zero_mod]) (Nat.le_refl k) stA w1 (by rw [jq_fd0, List.length_append]; show _ + 0 ≤ 80; omega)
          rw [jq_fd0] at w2
          refine ⟨H2, by rw [if_pos hz, ← List.append_assoc]; exact w2, jq_fn_trans fall (jq_fw_n (jq_fw_trans f1 f2)), fun Q => ?_⟩
          rw [upto, if_pos hz, hz, q2]
        · rw [if_neg hz, List.length_cons] at hlen
          obtain ⟨G2, wG2, fG2, qG2⟩ := c239 (c := 46) stA w1 (by rw [List.length_append]; omega)
          have stG2 := jq_fw_st fG2 stA
          obtain ⟨H2, w2, f2, q2⟩ := s238 (show k ≤ 48 by omega) (n := nI N) (w := nI W) (a := nI A) k 0 (m % 2 ^ k) 64 (L ++ jq_dgs 18 (jq_u10 17 1 (m / 2 ^ k)) (m / 2 ^ k) ++ [46]) G2 (by omega) hrlt (by rw [Nat.pow_zero, Nat.mod_one]) (by omega) stG2 wG2 (by rw [List.length_append, List.length_append, List.length_singleton]; omega)
          refine ⟨H2, by rw [if_neg hz, ← List.append_assoc, List.append_cons]; exact w2, jq_fn_trans fall (jq_fw_n (jq_fw_trans f1 (jq_fw_trans fG2 f2))), fun Q => ?_⟩
          rw [upto, if_neg hz, u238_124 (st_t180 stA), show (46 : Int32) = nI 46 from rfl, qG2]
          simp only [Option.toList_none, List.nil_append]
          rw [q2]
      · obtain ⟨k, hk, rfl⟩ : ∃ k : Nat, k ≤ 44 ∧ p = (k : Int) := ⟨p.toNat, by omega, by omega⟩
        rw [if_neg hpn, Int.toNat_natCast] at hlen ⊢
        unfold jq_wl at hlen ⊢
        rw [if_pos rfl, List.append_nil] at hlen ⊢
        have hv : m * 2 ^ k < 2 ^ 45 := by
          have := (Nat.mul_lt_mul_right (Nat.two_pow_pos k)).mpr lgm
          rw [← Nat.pow_add] at this
          exact Nat.lt_of_lt_of_le this (p2_le (by omega))
        obtain ⟨H1, w1, f1, q1⟩ := c240 (V := m * 2 ^ k) sto (by omega) wo (by omega)
        refine ⟨H1, w1, jq_fn_trans fall (jq_fw_n f1), fun Q => ?_⟩
        rw [go, u238_64 tB, ep, jI_0, if_ltI ⟨by omega, by omega⟩ (by decide), if_neg hpn, u238_71 tB, em, ep, nI_l (by omega), ← jI_n, lN_shl _ (by omega), q1]
        simp only [Option.toList_none, List.nil_append]
        rw [u238_85]
theorem jq_ls_len {A : Nat} (h1 : 3 ≤ N) (h2 : N ≤ 12) (hw : W ≤ 2) (hA : A < 2 ^ N) : (jq_ls N W A).length ≤ 71 := by
  unfold jq_ls
  by_cases hn : A = 2 ^ (N - 1)
  · rw [if_pos hn]; decide
  · by_cases h0 : A = 0
    · rw [if_neg hn, if_pos h0]; decide
    · obtain ⟨b1, b2⟩ := jf_bare_pos (show 1 ≤ N by omega) hA h0 hn
      obtain ⟨_, hlen, _⟩ := jq_d_all h1 h2 hw b1 b2
      rw [if_neg hn, if_neg h0, List.length_append]
      have : (if A < 2 ^ (N - 1) then ([] : List Nat) else [45]).length ≤ 1 := by split <;> decide
      omega
theorem c119r {A : Nat} {H : jm_H} (st : jm_st H) (h1 : 3 ≤ N) (h2 : N ≤ 12) (hw : W ≤ 2) (hA : A < 2 ^ N) (hi : jq_is H 27 (jq_val N W A)) : ∃ H1, jq_wc H1 (jq_ls N W A) ∧ jf_fr jq_PW H H1 ∧ ∀ Q, jm_c none 119 [.ref 25, .ref 27] H Q = Q none H1 := by
  by_cases hn : A = 2 ^ (N - 1)
  · rw [jq_val_nil hn] at hi
    unfold jq_ls
    rw [if_pos hn]
    exact c119_n st hi
  · by_cases h0 : A = 0
    · have e : jq_val N W A = some (0, 0, 0) := if_pos h0
      rw [e] at hi
      have := c119 st hi (Or.inr (Or.inl rfl)) (by decide) (by decide) (by decide) (by decide)
      unfold jq_ls
      rw [if_neg hn, if_pos h0]
      exact this
    · obtain ⟨b1, b2⟩ := jf_bare_pos (show 1 ≤ N by omega) hA h0 hn
      obtain ⟨o1, o2, o3, o4, o5, o6⟩ := jq_om_pos h1 h2 hw b1 b2
      obtain ⟨heq, hlen, _⟩ := jq_d_all h1 h2 hw b1 b2
      have hN11 : 2 ^ (N - 1) ≤ 2 ^ 11 := p2_le (by omega)
      have e : jq_val N W A = some (if A < 2 ^ (N - 1) then 1 else -1, jq_om N W (jf_bare N A), jq_op N W (jf_bare N A)) := by unfold jq_val; rw [if_neg h0, if_neg hn]
      rw [e] at hi
      have hV : jq_om N W (jf_bare N A) * 2 ^ (max 0 (min (jq_op N W (jf_bare N A)) 48)).toNat < 2 ^ 45 := by
        by_cases hp : 0 ≤ jq_op N W (jf_bare N A)
        · have lgm : jq_om N W (jf_bare N A) < 2 ^ (Nat.log2 (jq_om N W (jf_bare N A)) + 1) := Nat.lt_log2_self
          have := (Nat.mul_lt_mul_right (Nat.two_pow_pos (max 0 (min (jq_op N W (jf_bare N A)) 48)).toNat)).mpr lgm
          rw [← Nat.pow_add] at this
          exact Nat.lt_of_lt_of_le this (p2_le (by omega))
        · rw [show (max 0 (min (jq_op N W (jf_bare N A)) 48)).toNat = 0 by omega, Nat.pow_zero, Nat.mul_one]
          omega
      have := c119 (s := if A < 2 ^ (N - 1) then 1 else -1) st hi (by split; exact Or.inr (Or.inr rfl); exact Or.inl rfl) (show jq_om N W (jf_bare N A) < 2 ^ 11 by omega) (show -48 ≤ jq_op N W (jf_bare N A) ∧ jq_op N W (jf_bare N A) ≤ 48 by omega) hV (by rw [heq]; exact hlen)
      unfold jq_ls
      rw [if_neg hn, if_neg h0, ← heq]
      have es : (if (if A < 2 ^ (N - 1) then (1 : Int) else -1) < 0 then [45] else ([] : List Nat)) = (if A < 2 ^ (N - 1) then [] else [45]) := by
        by_cases h : A < 2 ^ (N - 1)
        · rw [if_pos h, if_neg (by decide), if_pos h]
        · rw [if_neg h, if_pos (by decide), if_neg h]
      rw [es] at this
      exact this
theorem jq_getD {L : List Nat} {P : Nat → Int32} {i : Int32} (h : ∀ j c, L[j]? = some c → P j = nI c) (h0 : 0 ≤ i.toInt) (h2 : i.toInt < L.length) : P i.toNatClampNeg = nI (L.getD i.toInt.toNat 0) := by
  have hi : i.toInt.toNat < L.length := by omega
  have e : L[i.toInt.toNat]? = some (L.getD i.toInt.toNat 0) := by
    rw [List.getD_eq_getElem?_getD, List.getElem?_eq_getElem hi]
    rfl
  exact h _ _ e
theorem C118 {A : Nat} {i : Int32} (h1 : 3 ≤ N) (h2 : N ≤ 12) (hw : W ≤ 2) (hA : A < 2 ^ N) : jq_C 118 [.int (nI N), .int (nI W), .int (nI A), .int i] (.int (jq_by (jq_ls N W A) i)) := fun H st => by
  obtain ⟨G, iG, _, fG, qG⟩ := c68 (S := none) (H := H) (st_t27 st) (st_r27_0 st) (by decide) (by decide) (st_t28 st) h1 h2 hw hA
  have stG := jf_fr_st fG st
  obtain ⟨H1, w1, f1, q1⟩ := c119r stG h1 h2 hw hA iG
  have st1 := jf_fr_st f1 stG
  have hlen := jq_ls_len (W := W) h1 h2 hw hA
  refine ⟨H1, jf_fr_trans (jf_fr_mono fG (fun q h => by rcases h with rfl | rfl <;> exact Or.inr (Or.inl (by decide)))) (jf_fr_mono f1 (fun q h => by rcases h with rfl | rfl <;> exact Or.inr (Or.inl (by decide)))), fun Q => ?_⟩
  have r4 := st_r2_4 st1
  rw [en118, u118_0, c99, if_pos (jr_row_nI h1 h2 hw hA)]
  simp only [Option.toList_some, List.append_nil]
  rw [u118_6, if_pos i1_0, u118_11 (st_t2 st) (by rw [st_r2_5 st]; decide) (by rw [st_r2_5 st]; exact st_t27 st), st_r2_5 st, qG]
  simp only [Option.toList_none, List.nil_append]
  rw [u118_21 (st_t2 stG) (by rw [st_r2_4 stG]; decide) (by rw [st_r2_5 stG]; decide) (by rw [st_r2_4 stG]; exact st_t25 stG), st_r2_4 stG, st_r2_5 stG, q1]
  simp only [Option.toList_none, List.nil_append]
  rw [u118_32]
  unfold jq_by
  by_cases hm : i = -1
  · rw [if_neg (fun g => g hm), if_pos hm, u118_38 (st_t2 st1) (by rw [r4]; decide) (by rw [r4]; exact st_t25 st1), r4, w1.1, u118_57]
  · rw [if_pos hm, if_neg hm, u118_48 (st_t2 st1) (by rw [r4]; decide) (by rw [r4]; exact st_t25 st1), r4, en122, u122_0]
    have n1 : jm_w none 4 118 57 [.ref 2, .int (nI N), .int (nI W), .int (nI A), .int i] ((some (Value.int (-1))).toList ++ []) H1 Q = Q (some (.int (-1))) H1 := by
      simp only [Option.toList_some, List.append_nil]
      rw [u118_57]
    have r0 := st_r25_0 st1
    have e80 : (Int32.ofNat 80).toInt = 80 := by decide
    rw [u122_4 (st_t25 st1), w1.1, u122_21, u122_31, u122_12 (st_t25 st1) (by rw [r0]; decide) (by rw [r0]; decide) (by rw [r0, st_t26 st1]; decide), r0, st_l26 st1]
    simp only [Int32.lt_iff_toInt_lt, Int32.le_iff_toInt_le, i32_0, e80, nI_toInt (show (jq_ls N W A).length < 2 ^ 31 by omega)]
    by_cases c1 : i.toInt < 0
    · rw [if_pos c1, n1, if_neg (by omega)]
    · rw [if_neg c1]
      by_cases c2 : ((jq_ls N W A).length : Int) ≤ i.toInt
      · rw [if_pos c2, n1, if_neg (by omega)]
      · have hin : ¬ (i < 0 ∨ 80 ≤ i.toNatClampNeg) := by
          intro g
          rcases g with g | g
          · rw [Int32.lt_iff_toInt_lt, i32_0] at g
            omega
          · have : i.toNatClampNeg = i.toInt.toNat := rfl
            omega
        rw [if_neg c2, if_pos (by omega), if_pos ⟨by omega, by omega⟩, u122_25 (st_t25 st1) (by rw [r0]; decide) (by rw [r0, st_l26 st1]; exact hin) (Or.inl (by rw [r0]; exact st_t26 st1)), r0, u122_31, jq_getD (P := fun j => jm_I H1 26 j) w1.2 (by omega) (by omega)]
        simp only [Option.toList_some, List.append_nil]
        rw [u118_57]
theorem M237 {A : Nat} {i : Int32} (h1 : 3 ≤ N) (h2 : N ≤ 12) (hw : W ≤ 2) (hA : A < 2 ^ N) : jq_M 237 [.int (nI N), .int (nI W), .int (nI A), .int i] (.int (jq_by (jq_ls N W A) i)) := fun H st => by
  obtain ⟨H1, w1, f1, q1⟩ := c238 st h1 h2 hw hA
  have st1 := jq_fn_st f1 st
  have hlen := jq_ls_len (W := W) h1 h2 hw hA
  refine ⟨H1, f1, fun Q => ?_⟩
  have t := st_t180 st1
  have r := st_r180_59 st1
  rw [en237, u237_0, c220, if_pos (jr_row_nI h1 h2 hw hA)]
  simp only [Option.toList_some, List.append_nil]
  rw [u237_6, if_pos i1_0, u237_11 (st_t180 st), q1]
  simp only [Option.toList_none, List.nil_append]
  rw [u237_18]
  unfold jq_by
  by_cases hm : i = -1
  · rw [if_neg (fun g => g hm), if_pos hm, u237_24 t, w1.1, u237_57]
  · have el : (nI (jq_ls N W A).length - (1 : Int32)).toInt = ((jq_ls N W A).length : Int) - 1 := by
      rw [jI_n, jI_1, jI_sub, jI_t ⟨by omega, by omega⟩]
    rw [if_pos hm, if_neg hm, u237_31 t, w1.1, c176, el, i32_0]
    by_cases c1 : 0 ≤ i.toInt ∧ i.toInt < (jq_ls N W A).length
    · have hin : ¬ (i < 0 ∨ 100 ≤ i.toNatClampNeg) := by
        intro g
        rcases g with g | g
        · rw [Int32.lt_iff_toInt_lt, i32_0] at g
          omega
        · have : i.toNatClampNeg = i.toInt.toNat := rfl
          omega
      rw [if_pos (by omega), if_pos c1]
      simp only [Option.toList_some, List.append_nil]
      rw [u237_43, if_neg i1_0, u237_46 t (by rw [r]; decide) (by rw [r, st_l207 st1]; exact hin) (by rw [r]; decide) (by rw [r]; exact st_t207 st1), r, jq_getD (P := fun j => jm_I H1 207 j) w1.2 c1.1 c1.2, u237_57]
    · rw [if_neg (by omega), if_neg c1]
      simp only [Option.toList_some, List.append_nil]
      rw [u237_43, if_pos rfl, u237_56, u237_57]
end WRT
