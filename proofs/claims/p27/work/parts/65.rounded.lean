set_option maxRecDepth 20000
/-! the class rounds a number -/
/-- at most 45 bits are kept -/
def jq_sq (m : Nat) (p : Int) : Nat × Int := if Nat.log2 m + 1 ≤ 45 then (m, p) else (jq_st m (2 ^ (Nat.log2 m + 1 - 45)), p + ((Nat.log2 m + 1 - 45 : Nat) : Int))
/-- to the nearest row, and how it was rounded -/
def jq_rnd (N W : Nat) (x : Option (Int × Nat × Int)) : Nat × Int := match x with
  | none => (2 ^ (N - 1), -2)
  | some y => if y.1 = 0 then (0, 0) else if 0 < y.1 then jq_rd N W (jq_sq y.2.1 y.2.2).1 (jq_sq y.2.1 y.2.2).2 else (jf_neg N (jq_rd N W (jq_sq y.2.1 y.2.2).1 (jq_sq y.2.1 y.2.2).2).1, -(jq_rd N W (jq_sq y.2.1 y.2.2).1 (jq_sq y.2.1 y.2.2).2).2)
/-- a number that the class may hold -/
def jq_ok (x : Option (Int × Nat × Int)) : Prop := match x with
  | none => True
  | some y => (y.1 = -1 ∨ y.1 = 0 ∨ y.1 = 1) ∧ (y.1 = 0 ↔ y.2.1 = 0) ∧ y.2.1 < 4611686018427387904 ∧ -200 ≤ y.2.2 ∧ y.2.2 ≤ 200 ∧ (y.1 ≠ 0 → -160 ≤ (Nat.log2 y.2.1 : Int) + y.2.2 ∧ (Nat.log2 y.2.1 : Int) + y.2.2 ≤ 160)
theorem jq_st_lg {m d : Nat} (h : 2 ^ d ≤ m) : Nat.log2 (jq_st m (2 ^ d)) = Nat.log2 m - d := by
  have hl := lg_div h
  have hq : m / 2 ^ d ≠ 0 := by
    have := Nat.div_pos h (Nat.two_pow_pos d)
    omega
  have h1 := Nat.log2_self_le hq
  have h2 := Nat.lt_log2_self (n := m / 2 ^ d)
  rw [show Nat.log2 m - d = Nat.log2 (m / 2 ^ d) by omega]
  unfold jq_st
  have hlow : m / 2 ^ d ≤ m / 2 ^ d ||| (if m % 2 ^ d = 0 then 0 else 1) := Nat.left_le_or
  have hup : m / 2 ^ d ||| (if m % 2 ^ d = 0 then 0 else 1) < 2 ^ (Nat.log2 (m / 2 ^ d) + 1) := by
    apply Nat.or_lt_two_pow h2
    have : 2 ^ 1 ≤ 2 ^ (Nat.log2 (m / 2 ^ d) + 1) := p2_le (by omega)
    split <;> omega
  exact (Nat.log2_eq_iff (by omega)).mpr ⟨by omega, hup⟩
theorem jq_sq_lg {m : Nat} {p : Int} (h0 : 0 < m) : 0 < (jq_sq m p).1 ∧ (jq_sq m p).1 < 2 ^ 45 ∧ (Nat.log2 (jq_sq m p).1 : Int) + (jq_sq m p).2 = Nat.log2 m + p ∧ p ≤ (jq_sq m p).2 := by
  have a1 : m < 2 ^ (Nat.log2 m + 1) := Nat.lt_log2_self
  have a2 := Nat.log2_self_le (n := m) (by omega)
  unfold jq_sq
  by_cases h : Nat.log2 m + 1 ≤ 45
  · rw [if_pos h]
    exact ⟨h0, Nat.lt_of_lt_of_le a1 (p2_le h), rfl, by omega⟩
  · rw [if_neg h]
    dsimp only
    have hd : 2 ^ (Nat.log2 m + 1 - 45) ≤ m := Nat.le_trans (p2_le (by omega)) a2
    have hl := jq_st_lg hd
    have hpos : 0 < jq_st m (2 ^ (Nat.log2 m + 1 - 45)) := by
      have hq := Nat.div_pos hd (Nat.two_pow_pos _)
      have : m / 2 ^ (Nat.log2 m + 1 - 45) ≤ jq_st m (2 ^ (Nat.log2 m + 1 - 45)) := Nat.left_le_or
      omega
    refine ⟨hpos, ?_, by omega, by omega⟩
    have h3 : jq_st m (2 ^ (Nat.log2 m + 1 - 45)) < 2 ^ (Nat.log2 (jq_st m (2 ^ (Nat.log2 m + 1 - 45))) + 1) := Nat.lt_log2_self
    rw [hl, show Nat.log2 m - (Nat.log2 m + 1 - 45) + 1 = 45 by omega] at h3
    exact h3
section RND
variable {S : Option (Nat × (Nat → Int32))} {H : jm_H}
theorem c51 {r r' : Nat} {x : Option (Int × Nat × Int)} (ht : jm_tg H r = 3) (ht' : jm_tg H r' = 3) (hi : jq_is H r' x) (hx : jq_ok x) (hne : r ≠ r' ∨ x ≠ none) : ∃ H1, jq_is H1 r x ∧ jf_fr (fun y => y = r) H H1 ∧ ∀ Q, jm_c S 51 [.ref r, .ref r'] H Q = Q none H1 := by
  cases x with
  | none =>
    have hr : r ≠ r' := by
      rcases hne with h | h
      · exact h
      · exact absurd rfl h
    have hi' : jm_I H r' 1 = 1 := hi
    have e1 : jm_I (jf_put r (jm_I H r' 2) (jm_L H r' 3) (jm_I H r' 4) H) r' 1 = 1 := by
      unfold jf_put
      simp only [jm_I_pI, jm_I_pL, jm_L_pI, jm_L_pL, Nat.reduceEqDiff, if_true, if_false, and_false, show ¬ r' = r from fun h => hr h.symm, false_and]
      exact hi'
    refine ⟨jm_pI (jf_put r (jm_I H r' 2) (jm_L H r' 3) (jm_I H r' 4) H) r 1 1, ?_, ?_, fun Q => ?_⟩
    · unfold jq_is
      dsimp only
      rw [jm_I_pI, if_pos ⟨rfl, rfl⟩]
    · unfold jf_put
      exact jf_fr_trans (jf_fr_trans (jf_fr_trans (jf_fr_trans (jf_fr_pI rfl) (jf_fr_pI rfl)) (jf_fr_pL rfl)) (jf_fr_pI rfl)) (jf_fr_pI rfl)
    · rw [en51, u51_0 ht' ht, c48 ht]
      simp only [Option.toList_none, List.nil_append]
      rw [u51_16 (tg_put ht') (tg_put ht) (Or.inr e1), e1]
  | some y =>
    obtain ⟨hi1, hi2, hi3, hi4⟩ := hi
    obtain ⟨_, hz, hm, _⟩ := hx
    obtain ⟨H1, i1, f1, q1⟩ := c48' (S := S) (H := H) (s := y.1) (m := y.2.1) (p := y.2.2) ht (by omega) (fun h => hz.mpr h)
    have e1 : jm_I H1 r' 1 = 0 := by
      by_cases h : r' = r
      · rw [h]; exact i1.1
      · rw [(f1.2.2.2.2 r' h).1]; exact hi1
    have tt : ∀ q, jm_tg H q = 3 → jm_tg H1 q = 3 := fun q h => by rw [f1.2.1]; exact h
    refine ⟨jm_pI H1 r 1 0, ?_, jf_fr_trans f1 (jf_fr_pI rfl), fun Q => ?_⟩
    · obtain ⟨j1, j2, j3, j4⟩ := i1
      unfold jq_is
      simp only [jm_I_pI, jm_L_pI, true_and, Nat.reduceEqDiff, if_true, if_false, and_false]
      exact ⟨j2, j3, j4⟩
    · rw [en51, u51_0 ht' ht, hi2, hi3, hi4, q1]
      simp only [Option.toList_none, List.nil_append]
      rw [u51_16 (tt _ ht') (tt _ ht) (Or.inl e1), e1]
theorem c52 {r : Nat} {s : Int} {m : Nat} {p : Int} (ht : jm_tg H r = 3) (hi : jq_is H r (some (s, m, p))) (h0 : 0 < m) (hm : m < 4611686018427387904) : ∃ H1, jq_is H1 r (some (s, (jq_sq m p).1, (jq_sq m p).2)) ∧ jf_fr (fun y => y = r) H H1 ∧ ∀ Q, jm_c S 52 [.ref r] H Q = Q none H1 := by
  obtain ⟨hi1, hi2, hi3, hi4⟩ := hi
  dsimp only at hi2 hi3 hi4
  have hl := lg_le (k := 62) h0 hm
  have e : nI (Nat.log2 m + 1) - (45 : Int32) = jI ((Nat.log2 m : Int) + 1 - 45) := by
    rw [jI_n, show (45 : Int32) = jI 45 from by decide, jI_sub]
    rfl
  by_cases h : Nat.log2 m + 1 ≤ 45
  · have es : jq_sq m p = (m, p) := by unfold jq_sq; rw [if_pos h]
    refine ⟨H, ?_, jf_fr_refl H, fun Q => ?_⟩
    · rw [es]
      exact ⟨hi1, hi2, hi3, hi4⟩
    · rw [en52, u52_0 ht, hi3, c53 h0 (by omega)]
      simp only [Option.toList_some, List.append_nil]
      rw [u52_7, e, jI_0, if_pos (by rw [jI_le ⟨by omega, by omega⟩ (by decide)]; omega), u52_38]
  · have es : jq_sq m p = (jq_st m (2 ^ (Nat.log2 m + 1 - 45)), p + ((Nat.log2 m + 1 - 45 : Nat) : Int)) := by unfold jq_sq; rw [if_neg h]
    have ev : jq_mv m (-((Nat.log2 m : Int) + 1 - 45)) = jq_st m (2 ^ (Nat.log2 m + 1 - 45)) := by
      unfold jq_mv
      rw [if_neg (by omega), show (- -((Nat.log2 m : Int) + 1 - 45)).toNat = Nat.log2 m + 1 - 45 by omega]
    refine ⟨jm_pI (jm_pL H r 3 (lN (jq_st m (2 ^ (Nat.log2 m + 1 - 45))))) r 4 (jI (p + ((Nat.log2 m : Int) + 1 - 45))), ?_, jf_fr_trans (jf_fr_pL rfl) (jf_fr_pI rfl), fun Q => ?_⟩
    · rw [es]
      unfold jq_is
      simp only [jm_I_pI, jm_I_pL, jm_L_pI, jm_L_pL, true_and, Nat.reduceEqDiff, if_true, if_false, and_false, and_true]
      refine ⟨hi1, hi2, ?_⟩
      congr 1
      omega
    · rw [en52, u52_0 ht, hi3, c53 h0 (by omega)]
      simp only [Option.toList_some, List.append_nil]
      rw [u52_7, e, jI_0, if_neg (by rw [jI_le ⟨by omega, by omega⟩ (by decide)]; omega), u52_15 ht, hi3, jI_neg, c56 hm (by omega) (by omega), ev]
      simp only [Option.toList_some, List.cons_append, List.nil_append]
      rw [u52_25 ht ht, hi4, jI_add, u52_38]
theorem c58 {N W m : Nat} {p : Int} {s : Int} (st : jm_st H) (hi : jq_is H 16 (some (s, m, p))) (h1 : 3 ≤ N) (h2 : N ≤ 12) (hw : W ≤ 2) (h0 : 0 < m) (hm : m < 2 ^ 45) (hs : -160 ≤ (Nat.log2 m : Int) + p ∧ (Nat.log2 m : Int) + p ≤ 160) : ∀ Q, jm_c S 58 [.ref 11, .int (nI N), .int (nI W)] H Q = Q (some (.int (nI (jq_rd N W m p).1))) (jm_pI H 11 3 (jI (jq_rd N W m p).2)) := by
  intro Q
  obtain ⟨hi1, hi2, hi3, hi4⟩ := hi
  dsimp only at hi2 hi3 hi4
  have t11 := st_t11 st
  have t16 := st_t16 st
  have r2 := st_r11_2 st
  have hl := lg_le (k := 45) h0 hm
  have tb := jq_tb h1 h2 hw
  have etop : (nI N - (2 : Int32)) <<< (nI W &&& 31) = jI (((N - 2) * 2 ^ W : Nat) : Int) := by
    rw [nI_2L, pk_sub (by omega), nI_shl _ (by omega), jI_n]
  have er : ∀ x : Nat, jm_R H 11 2 = 16 := fun _ => r2
  rw [en58, u58_0 t11 (by rw [r2]; decide) (by rw [r2]; exact t16), r2, c59 t16 hi3 hi4 h0 (by omega), etop]
  simp only [Option.toList_some, List.append_nil]
  rw [u58_13, if_leI ⟨by omega, by omega⟩ ⟨by omega, by omega⟩]
  by_cases ha : (Nat.log2 m : Int) + p ≤ (((N - 2) * 2 ^ W : Nat) : Int)
  · rw [if_pos ha, u58_31, jI_neg, if_leI ⟨by omega, by omega⟩ ⟨by omega, by omega⟩]
    by_cases hb : -(((N - 2) * 2 ^ W : Nat) : Int) ≤ (Nat.log2 m : Int) + p
    · have hmid := jq_mid h1 h2 hw h0 ⟨hb, ha⟩
      have hnb := jq_nbelow h1 h2 hw h0 hs.2 hb
      have hg : -1000 ≤ (Nat.log2 m : Int) + p ∧ (Nat.log2 m : Int) + p ≤ 1000 := by omega
      have hg2 : ((Nat.log2 m : Int) + p) / ((2 ^ W : Nat) : Int) ≤ ((N - 2 : Nat) : Int) := by
        have := Int.ediv_le_ediv (c := ((2 ^ W : Nat) : Int)) (by have := p2_pos W; omega) ha
        rw [(jq_top_ed (show 2 ≤ N by omega)).1] at this
        exact this
      have hg3 : -((N - 2 : Nat) : Int) ≤ ((Nat.log2 m : Int) + p) / ((2 ^ W : Nat) : Int) := by
        have := Int.ediv_le_ediv (c := ((2 ^ W : Nat) : Int)) (by have := p2_pos W; omega) hb
        rw [(jq_bot_ed (show 2 ≤ N by omega)).1] at this
        exact this
      have hhb : jq_hb W ((Nat.log2 m : Int) + p) ≤ N + W := by
        unfold jq_hb
        split <;> omega
      have hhd : jq_hd W ((Nat.log2 m : Int) + p) < 2 ^ (N + W) := by
        have hp := p2_pos W
        have hx : ((((Nat.log2 m : Int) + p) % ((2 ^ W : Nat) : Int)).toNat) < 2 ^ W := by
          have a := Int.emod_nonneg ((Nat.log2 m : Int) + p) (b := ((2 ^ W : Nat) : Int)) (by omega)
          have b := Int.emod_lt_of_pos ((Nat.log2 m : Int) + p) (b := ((2 ^ W : Nat) : Int)) (by omega)
          omega
        have hy : (if 0 ≤ ((Nat.log2 m : Int) + p) / ((2 ^ W : Nat) : Int) then 2 ^ ((((Nat.log2 m : Int) + p) / ((2 ^ W : Nat) : Int)).toNat + 2) - 2 else 1) + 1 ≤ 2 ^ N := by
          split
          · have : 2 ^ ((((Nat.log2 m : Int) + p) / ((2 ^ W : Nat) : Int)).toNat + 2) ≤ 2 ^ N := p2_le (by omega)
            have := p2_pos ((((Nat.log2 m : Int) + p) / ((2 ^ W : Nat) : Int)).toNat + 2)
            omega
          · have : 2 ^ 1 ≤ 2 ^ N := p2_le (by omega)
            omega
        have hz := Nat.mul_le_mul_right (2 ^ W) hy
        rw [Nat.add_mul, Nat.one_mul, ← Nat.pow_add] at hz
        unfold jq_hd
        omega
      have a1 : m < 2 ^ (Nat.log2 m + 1) := Nat.lt_log2_self
      have a2 := Nat.log2_self_le (n := m) (by omega)
      have hnum : jq_num W m p < 2 ^ (N + W + Nat.log2 m) := by
        unfold jq_num
        have := Nat.mul_le_mul_right (2 ^ Nat.log2 m) hhd
        rw [Nat.succ_mul, ← Nat.pow_add] at this
        rw [Nat.pow_succ] at a1
        omega
      have hn62 : 2 ^ (N + W + Nat.log2 m) ≤ 2 ^ 59 := p2_le (by omega)
      have eb : nI (Nat.log2 m + 1) - (1 : Int32) = nI (Nat.log2 m) := by rw [nI_1L, pk_sub (by omega), Nat.add_sub_cancel]
      have emod : m % 2 ^ Nat.log2 m = m - 2 ^ Nat.log2 m := by
        rw [Nat.pow_succ] at a1
        rw [Nat.mod_eq_sub_mod a2, Nat.mod_eq_of_lt (by omega)]
      have eall : (lN (jq_hd W ((Nat.log2 m : Int) + p)) <<< (Int32.toInt64 (nI (Nat.log2 m)) &&& 63)) ||| (lN m &&& (((1 : Int64) <<< (Int32.toInt64 (nI (Nat.log2 m)) &&& 63)) - (1 : Int64))) = lN (jq_num W m p) := by
        rw [lN_shl _ (by omega), lN_p2 (by omega), lN_msk, lN_ors _ (Nat.mod_lt _ (p2_pos _)), emod]
        rfl
      have ecut : (nI (jq_hb W ((Nat.log2 m : Int) + p)) + nI (Nat.log2 m)) - (nI N - (1 : Int32)) = jI ((jq_e W m p : Int) - (N - 1 : Nat)) := by
        rw [nI_1L, pk_sub (by omega), jI_n, jI_n, jI_add, jI_n, jI_sub]
        rfl
      have he1 : jq_e W m p ≤ 59 := by unfold jq_e; omega
      rw [if_pos hb, u58_45 t11 (by rw [r2]; decide) (by rw [r2]; exact t16), r2, hi3, c53 h0 (by omega)]
      simp only [Option.toList_some, List.append_nil]
      rw [u58_55, eb, c61 hg hw (by omega)]
      simp only [Option.toList_some, List.append_nil]
      rw [u58_65 t11 (by rw [r2]; decide) (by rw [r2]; exact t16), r2, hi3, eall, c62 hg hw]
      simp only [Option.toList_some, List.cons_append, List.nil_append]
      rw [u58_94 t11, ecut, c63 t11 (by omega) (by omega) (by omega), hmid]
      simp only [Option.toList_some, List.append_nil]
      rw [u58_104]
    · have hlow := jq_below h1 h2 hw h0 hs.1 (by omega)
      have e : jq_rd N W m p = (1, 1) := by unfold jq_rd jq_R; rw [if_pos hlow]
      rw [if_neg hb, u58_38 t11, e]
      rfl
  · have hab := jq_above h1 h2 hw h0 hs.2 (by omega)
    have hnb := jq_nbelow h1 h2 hw h0 hs.2 (by omega)
    have e : jq_rd N W m p = (2 ^ (N - 1) - 1, -1) := by unfold jq_rd jq_R; rw [if_neg (by omega), if_pos hab]
    rw [if_neg ha, u58_21 t11, c60 (by omega) (by omega), e]
    simp only [Option.toList_some, List.append_nil]
    rw [u58_30]
    rfl
theorem jq_rd_le {N W m : Nat} {p : Int} (h1 : 3 ≤ N) : (jq_rd N W m p).1 < 2 ^ (N - 1) := by
  have hh : 2 ^ 2 ≤ 2 ^ (N - 1) := p2_le (by omega)
  unfold jq_rd jq_R
  generalize jq_num W m p * 2 ^ (N - 1) = a
  have hK := p2_pos (jq_e W m p)
  generalize 2 ^ jq_e W m p = K at *
  by_cases c1 : a < K
  · rw [if_pos c1]; dsimp only; omega
  · rw [if_neg c1]
    by_cases c2 : (2 ^ (N - 1) - 1) * K < a
    · rw [if_pos c2]; dsimp only; omega
    · rw [if_neg c2]
      have hq : a / K ≤ 2 ^ (N - 1) - 1 := Nat.div_le_of_le_mul (by rw [Nat.mul_comm]; omega)
      by_cases c3 : a % K = 0
      · rw [if_pos c3]; dsimp only; omega
      · rw [if_neg c3]
        have hlt : a / K < 2 ^ (N - 1) - 1 := by
          apply Nat.lt_of_le_of_ne hq
          intro h
          have := Nat.div_add_mod a K
          rw [h, Nat.mul_comm] at this
          omega
        split <;> dsimp only <;> omega
theorem c49 {N W r : Nat} {x : Option (Int × Nat × Int)} (st : jm_st H) (ht : jm_tg H r = 3) (hi : jq_is H r x) (hx : jq_ok x) (h1 : 3 ≤ N) (h2 : N ≤ 12) (hw : W ≤ 2) : ∃ H1, jm_I H1 11 3 = jI (jq_rnd N W x).2 ∧ jf_fr (fun y => y = 11 ∨ y = 16) H H1 ∧ ∀ Q, jm_c S 49 [.ref 11, .int (nI N), .int (nI W), .ref r] H Q = Q (some (.int (nI (jq_rnd N W x).1))) H1 := by
  have t11 := st_t11 st
  have t16 := st_t16 st
  have r2 := st_r11_2 st
  cases x with
  | none =>
    have hn : jm_I H r 1 = 1 := hi
    refine ⟨jm_pI H 11 3 (-2), ?_, jf_fr_pI (Or.inl rfl), fun Q => ?_⟩
    · rw [jm_I_pI, if_pos ⟨rfl, rfl⟩]
      rfl
    · rw [en49, u49_0 ht, hn, if_neg i1_0, u49_7 t11, c50 (by omega) (by omega)]
      simp only [Option.toList_some, List.append_nil]
      rw [u49_17]
      rfl
  | some y =>
    obtain ⟨s, m, p⟩ := y
    obtain ⟨x1, x2, x3, x4, x5, x6⟩ := hx
    dsimp only at x1 x2 x3 x4 x5 x6
    have hn : jm_I H r 1 = 0 := hi.1
    have hsg : jm_I H r 2 = jI s := hi.2.1
    have zs : (jI s = (0 : Int32)) = (s = 0) := propext (jI_eq (b := 0) ⟨by omega, by omega⟩ (by decide))
    by_cases h0 : s = 0
    · refine ⟨jm_pI H 11 3 0, ?_, jf_fr_pI (Or.inl rfl), fun Q => ?_⟩
      · rw [jm_I_pI, if_pos ⟨rfl, rfl⟩]
        unfold jq_rnd
        dsimp only
        rw [if_pos h0]
        rfl
      · rw [en49, u49_0 ht, hn, if_pos rfl, u49_18 ht, hsg, if_neg (by rw [zs]; exact fun g => g h0), u49_25 t11]
        unfold jq_rnd
        dsimp only
        rw [if_pos h0]
        rfl
    · have hm0 : 0 < m := by
        rcases Nat.eq_zero_or_pos m with h | h
        · exact absurd (x2.mpr h) h0
        · exact h
      obtain ⟨s1, s2, s3, s4⟩ := jq_sq_lg (m := m) (p := p) hm0
      have x6' := x6 h0
      obtain ⟨H1, i1, f1, q1⟩ := c51 (S := S) t16 ht hi ⟨x1, x2, x3, x4, x5, x6⟩ (Or.inr (by intro h; cases h))
      have st1 := jf_fr_st f1 st
      obtain ⟨H2, i2, f2, q2⟩ := c52 (S := S) (st_t16 st1) i1 hm0 x3
      have st2 := jf_fr_st f2 st1
      have q3 := c58 (S := S) st2 i2 h1 h2 hw s1 s2 (by omega)
      have f12 := jf_fr_trans f1 f2
      have hsg2 : ∀ v : Int32, jm_I (jm_pI H2 11 3 v) r 2 = jI s := by
        intro v
        by_cases hr16 : r = 16
        · rw [hr16, jm_I_pI, if_neg (by omega)]
          exact i2.2.1
        · rw [jm_I_pI, if_neg (by omega), (f12.2.2.2.2 r hr16).1]
          exact hsg
      have tr : ∀ v : Int32, jm_tg (jm_pI H2 11 3 v) r = 3 := fun v => by
        show jm_tg H2 r = 3
        rw [f12.2.1]
        exact ht
      have hle := jq_rd_le (N := N) (W := W) (m := (jq_sq m p).1) (p := (jq_sq m p).2) h1
      have hh := p2_half (show 1 ≤ N by omega)
      have run : ∀ Q, jm_c S 49 [.ref 11, .int (nI N), .int (nI W), .ref r] H Q = if s ≤ 0 then Q (some (.int (nI (jf_neg N (jq_rd N W (jq_sq m p).1 (jq_sq m p).2).1)))) (jm_pI (jm_pI H2 11 3 (jI (jq_rd N W (jq_sq m p).1 (jq_sq m p).2).2)) 11 3 (jI (-(jq_rd N W (jq_sq m p).1 (jq_sq m p).2).2))) else Q (some (.int (nI (jq_rd N W (jq_sq m p).1 (jq_sq m p).2).1))) (jm_pI H2 11 3 (jI (jq_rd N W (jq_sq m p).1 (jq_sq m p).2).2)) := by
        intro Q
        rw [en49, u49_0 ht, hn, if_pos rfl, u49_18 ht, hsg, if_pos (by rw [zs]; exact h0), u49_32 t11 (by rw [r2]; decide) (by rw [r2]; exact t16), r2, q1]
        simp only [Option.toList_none, List.nil_append]
        rw [u49_40 (st_t11 st1) (by rw [st_r11_2 st1]; decide) (by rw [st_r11_2 st1]; exact st_t16 st1), st_r11_2 st1, q2]
        simp only [Option.toList_none, List.nil_append]
        rw [u49_47 (st_t11 st2), q3]
        simp only [Option.toList_some, List.append_nil]
        rw [u49_53 (tr _), hsg2, jI_0, if_leI ⟨by omega, by omega⟩ (by decide)]
        by_cases hs : s ≤ 0
        · rw [if_pos hs, if_pos hs, u49_65 (tgI (st_t11 st2)), jm_I_pI, if_pos ⟨rfl, rfl⟩, jI_neg, c64 h2 (by omega)]
          simp only [Option.toList_some, List.append_nil]
          rw [u49_80]
        · rw [if_neg hs, if_neg hs, u49_62]
      by_cases hs : 0 < s
      · refine ⟨jm_pI H2 11 3 (jI (jq_rd N W (jq_sq m p).1 (jq_sq m p).2).2), ?_, jf_fr_trans (jf_fr_mono f12 (fun y hy => Or.inr hy)) (jf_fr_pI (Or.inl rfl)), fun Q => ?_⟩
        · rw [jm_I_pI, if_pos ⟨rfl, rfl⟩]
          unfold jq_rnd
          dsimp only
          rw [if_neg h0, if_pos hs]
        · rw [run, if_neg (by omega)]
          unfold jq_rnd
          dsimp only
          rw [if_neg h0, if_pos hs]
      · refine ⟨jm_pI (jm_pI H2 11 3 (jI (jq_rd N W (jq_sq m p).1 (jq_sq m p).2).2)) 11 3 (jI (-(jq_rd N W (jq_sq m p).1 (jq_sq m p).2).2)), ?_, jf_fr_trans (jf_fr_trans (jf_fr_mono f12 (fun y hy => Or.inr hy)) (jf_fr_pI (Or.inl rfl))) (jf_fr_pI (Or.inl rfl)), fun Q => ?_⟩
        · rw [jm_I_pI, if_pos ⟨rfl, rfl⟩]
          unfold jq_rnd
          dsimp only
          rw [if_neg h0, if_neg hs]
        · rw [run, if_pos (by omega)]
          unfold jq_rnd
          dsimp only
          rw [if_neg h0, if_neg hs]
end RND
