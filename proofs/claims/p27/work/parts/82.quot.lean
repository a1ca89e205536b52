set_option maxRecDepth 20000
/-! quotients of whole numbers; products with a sum; powers -/
def jq_wh (z : Int) : Option (Int × Nat × Int) := some (jq_sg z, z.natAbs, 0)
section QUOT
variable {S : Option (Nat × (Nat → Int32))} {N W : Nat}
theorem c46 {z : Int} (h : -1000000 ≤ z ∧ z ≤ 1000000) {H : jm_H} : ∀ Q, jm_c S 46 [.int (jI z)] H Q = Q (some (.int (jI (jq_sg z)))) H := by
  intro Q
  rw [en46, u46_0]
  have e1 : jI z >>> ((31 : Int32) &&& 31) = jI (z / 2147483648) := jI_shr (k := 31) ⟨by omega, by omega⟩ (by decide)
  have e2 : (Int32.toUInt32 (-(jI z)) >>> (Int32.toUInt32 (31 : Int32) &&& Int32.toUInt32 31)).toInt32 = if 0 < z then 1 else 0 := by
    rw [jI_neg]
    apply Int32.toBitVec.inj
    apply BitVec.eq_of_toNat_eq
    rw [pk_ushr (jI (-z)) 31 31 (by decide)]
    have hb := jI_bv (-z)
    by_cases h0 : 0 < z
    · rw [if_pos h0, show (1 : Int32).toBitVec.toNat = 1 from by decide]
      have : (jI (-z)).toBitVec.toNat = 4294967296 - z.toNat := by omega
      rw [this]
      omega
    · rw [if_neg h0, show (0 : Int32).toBitVec.toNat = 0 from by decide]
      have : (jI (-z)).toBitVec.toNat = (-z).toNat := by omega
      rw [this]
      omega
  rw [e1, e2]
  unfold jq_sg
  by_cases h1 : z < 0
  · rw [if_pos h1, if_neg (by omega), show z / 2147483648 = -1 by omega]
    rfl
  · rw [if_neg h1, show z / 2147483648 = 0 by omega]
    by_cases h2 : z = 0
    · rw [if_pos h2, if_neg (by omega)]
      rfl
    · rw [if_neg h2, if_pos (by omega)]
      rfl
theorem c45 {r : Nat} {z : Int} {H : jm_H} (ht : jm_tg H r = 3) (h : -1000000 ≤ z ∧ z ≤ 1000000) : ∃ H1, jq_is H1 r (jq_wh z) ∧ jf_fr (fun q => q = r) H H1 ∧ ∀ Q, jm_c S 45 [.ref r, .int (jI z)] H Q = Q none H1 := by
  obtain ⟨H1, i1, f1, q1⟩ := c48' (S := S) (H := H) (s := jq_sg z) (m := z.natAbs) (p := 0) ht (by omega) (fun g => by
    have : z = 0 := by omega
    rw [this]
    rfl)
  refine ⟨H1, i1, f1, fun Q => ?_⟩
  rw [en45, u45_0, c46 h]
  simp only [Option.toList_some, List.cons_append, List.nil_append]
  rw [u45_5, jI_l ⟨by omega, by omega⟩, c47 ⟨by omega, by omega⟩]
  simp only [Option.toList_some, List.cons_append, List.nil_append]
  rw [u45_10 ht, ← lI_n]
  show jm_c S 48 [.ref r, .int (jI (jq_sg z)), .long (lN z.natAbs), .int (jI 0)] H _ = _
  rw [q1]
  simp only [Option.toList_none, List.nil_append]
  rw [u45_14]
theorem jq_wh_b {z : Int} (h : -1000000 ≤ z ∧ z ≤ 1000000) : jq_b 21 44 56 (jq_wh z) := by
  have hs := jq_sg_b z
  refine ⟨hs, ?_, ?_, (show -((56 : Nat) : Int) ≤ (0 : Int) ∧ (0 : Int) ≤ ((56 : Nat) : Int) by decide), fun g => ?_⟩
  · show jq_sg z = 0 ↔ z.natAbs = 0
    unfold jq_sg
    by_cases h1 : z < 0
    · rw [if_pos h1]; omega
    · rw [if_neg h1]
      by_cases h2 : z = 0
      · rw [if_pos h2]; omega
      · rw [if_neg h2]; omega
  · show z.natAbs < 2 ^ 21
    omega
  · show -((44 : Nat) : Int) ≤ (Nat.log2 z.natAbs : Int) + 0 ∧ (Nat.log2 z.natAbs : Int) + 0 ≤ ((44 : Nat) : Int)
    have hz : z ≠ 0 := fun h0 => g (by rw [h0]; rfl)
    have := lg_le (x := z.natAbs) (k := 21) (by omega) (by omega)
    omega
theorem c135 {y z : Int} {H : jm_H} (st : jm_st H) (h1 : 3 ≤ N) (h2 : N ≤ 12) (hw : W ≤ 2) (hy : -1000000 ≤ y ∧ y ≤ 1000000) (hz : -1000000 ≤ z ∧ z ≤ 1000000) : ∃ H1, jf_fr jq_RR H H1 ∧ ∀ Q, jm_c S 135 [.ref 11, .int (nI N), .int (nI W), .int (jI y), .int (jI z)] H Q = Q (some (.int (nI (jq_rnd N W (jq_div (jq_wh y) (jq_wh z))).1))) H1 := by
  obtain ⟨H1, i1, f1, q1⟩ := c45 (S := S) (st_t12 st) hy
  have st1 := jf_fr_st f1 st
  obtain ⟨H2, i2, f2, q2⟩ := c45 (S := S) (st_t14 st1) hz
  have st2 := jf_fr_st f2 st1
  have i1' : jq_is H2 12 (jq_wh y) := jq_is_fr f2 (by decide) i1
  obtain ⟨H3, i3, f3, q3⟩ := c90 (S := S) st2 i1' i2 (jq_b_mono (jq_wh_b hy) (by decide) (by decide) (by decide)) (jq_b_mono (jq_wh_b hz) (by decide) (by decide) (by decide))
  have st3 := jf_fr_st f3 st2
  have f123 : jf_fr jq_RR H H3 := jf_fr_trans (jf_fr_trans (jf_fr_mono f1 (fun x hx => by rcases hx with rfl; decide)) (jf_fr_mono f2 (fun x hx => by rcases hx with rfl; decide))) (jf_fr_mono f3 (fun x hx => by rcases hx with rfl; decide))
  obtain ⟨H4, _, f4, q4⟩ := f49 (S := S) (N := N) (W := W) st i3 (jq_div_ok (jq_wh_b hy) (jq_wh_b hz)) f123 h1 h2 hw
  refine ⟨H4, f4, fun Q => ?_⟩
  rw [en135, u135_0 (st_t11 st) (by rw [st_r11_0 st]; decide) (by rw [st_r11_0 st]; exact st_t12 st), st_r11_0 st, q1]
  simp only [Option.toList_none, List.nil_append]
  rw [u135_8 (st_t11 st1) (by rw [st_r11_1 st1]; decide) (by rw [st_r11_1 st1]; exact st_t14 st1), st_r11_1 st1, q2]
  simp only [Option.toList_none, List.nil_append]
  rw [u135_17 (st_t11 st2), q3]
  simp only [Option.toList_none, List.nil_append]
  rw [u135_21 (st_t11 st3) (by rw [st_r11_2 st3]; decide), st_r11_2 st3, q4]
  simp only [Option.toList_some, List.append_nil]
  rw [u135_31]
abbrev jq_pa (x : Int32) : Prop := -1000000 ≤ x.toInt ∧ x.toInt ≤ 1000000
theorem i32_mil : (1000000 : Int32).toInt = 1000000 := by decide
theorem i32_mml : (-1000000 : Int32).toInt = -1000000 := by decide
theorem c134 (x : Int32) {H : jm_H} : ∀ Q, jm_c S 134 [.int x] H Q = Q (some (.int (if jq_pa x then 1 else 0))) H := by
  intro Q
  rw [en134, u134_0, u134_7, u134_14, u134_18, u134_19 (Or.inr rfl), u134_19 (Or.inl rfl)]
  simp only [Int32.lt_iff_toInt_lt, i32_mil, i32_mml]
  repeat' split
  all_goals first | rfl | (exfalso; omega)
theorem C133 {y z : Int} (h1 : 3 ≤ N) (h2 : N ≤ 12) (hw : W ≤ 2) (hy : -1000000 ≤ y ∧ y ≤ 1000000) (hz : -1000000 ≤ z ∧ z ≤ 1000000) : jq_C 133 [.int (nI N), .int (nI W), .int (jI y), .int (jI z)] (.int (nI (jq_rnd N W (jq_div (jq_wh y) (jq_wh z))).1)) := fun H st => by
  obtain ⟨H1, f1, q1⟩ := c135 (S := none) st h1 h2 hw hy hz
  have hs : jr_sz (nI N) (nI W) := (jr_row_nI h1 h2 hw (p2_pos N)).1
  have py : jq_pa (jI y) := by rw [jq_pa, jI_t ⟨by omega, by omega⟩]; exact hy
  have pz : jq_pa (jI z) := by rw [jq_pa, jI_t ⟨by omega, by omega⟩]; exact hz
  refine ⟨H1, jf_fr_mono f1 (fun q h => jq_RR_PC h), fun Q => ?_⟩
  rw [en133, u133_0, c93, if_pos hs]
  simp only [Option.toList_some, List.append_nil]
  rw [u133_5, if_neg i1_0, u133_8, c134, if_pos py]
  simp only [Option.toList_some, List.append_nil]
  rw [u133_12, if_neg i1_0, u133_15, c134, if_pos pz]
  simp only [Option.toList_some, List.append_nil]
  rw [u133_20, if_pos i1_0, u133_25 (st_t2 st) (by rw [st_r2_3 st]; decide) (by rw [st_r2_3 st]; exact st_t11 st), st_r2_3 st, q1]
  simp only [Option.toList_some, List.append_nil]
  rw [u133_37]
theorem M228 {y z : Int} (h1 : 3 ≤ N) (h2 : N ≤ 12) (hw : W ≤ 2) (hy : -1000000 ≤ y ∧ y ≤ 1000000) (hz : -1000000 ≤ z ∧ z ≤ 1000000) : jq_M 228 [.int (nI N), .int (nI W), .int (jI y), .int (jI z)] (.int (nI (jq_rnd N W (jq_div (jq_wh y) (jq_wh z))).1)) := fun H st => by
  have hs : jr_sz (nI N) (nI W) := (jr_row_nI h1 h2 hw (p2_pos N)).1
  have zz : (jI z = (0 : Int32)) = (z = 0) := propext (jI_eq (b := 0) ⟨by omega, by omega⟩ (by decide))
  have ly : ((0 : Int32) ≤ jI y) = (0 ≤ y) := propext (jI_le (a := 0) (by decide) ⟨by omega, by omega⟩)
  have lz : ((0 : Int32) ≤ jI z) = (0 ≤ z) := propext (jI_le (a := 0) (by decide) ⟨by omega, by omega⟩)
  have start : ∀ Q, jm_c none 228 [.ref 180, .int (nI N), .int (nI W), .int (jI y), .int (jI z)] H Q = jm_w none 6 228 37 [.ref 180, .int (nI N), .int (nI W), .int (jI y), .int (jI z)] [] H Q := by
    intro Q
    rw [en228, u228_0, c217, if_pos hs]
    simp only [Option.toList_some, List.append_nil]
    rw [u228_5, if_neg i1_0, u228_8, c176, i32_mil, i32_mml, jI_t ⟨by omega, by omega⟩, if_pos hy]
    simp only [Option.toList_some, List.append_nil]
    rw [u228_18, if_neg i1_0, u228_21, c176, i32_mil, i32_mml, jI_t ⟨by omega, by omega⟩, if_pos hz]
    simp only [Option.toList_some, List.append_nil]
    rw [u228_32, if_pos i1_0]
  by_cases h0 : z = 0
  · refine ⟨H, jq_fn_refl H, fun Q => ?_⟩
    have e : jq_div (jq_wh y) (jq_wh z) = none := by
      rw [h0]
      rfl
    rw [start, u228_37, ite_eqP (congrArg Not zz), if_neg (fun g => g h0), u228_42, c191 (by omega) (by omega)]
    simp only [Option.toList_some, List.append_nil]
    rw [u228_46, e]
    rfl
  · obtain ⟨its, hits, hi⟩ : ∃ its : Int, its = (if (y < 0 ↔ z < 0) then 1 else -1) ∧ (its = -1 ∨ its = 1) := ⟨_, rfl, by split; exact Or.inr rfl; exact Or.inl rfl⟩
    -- up to the rounding
    have upto : ∀ Q, jm_c none 228 [.ref 180, .int (nI N), .int (nI W), .int (jI y), .int (jI z)] H Q = jm_c none 189 [.ref 180, .int (nI N), .int (nI W), .long (lN y.natAbs), .int (jI 0), .long (lN z.natAbs), .int (jI 0), .int (jI its)] H (fun v G => jm_w none 6 228 109 [.ref 180, .int (nI N), .int (nI W), .int (jI y), .int (jI z)] (v.toList ++ []) G Q) := by
      intro Q
      have h62 : jm_w none 6 228 62 [.ref 180, .int (nI N), .int (nI W), .int (jI y), .int (jI z)] [.long (lN y.natAbs), .int (nI W), .int (nI N), .ref 180] H Q = jm_c none 189 [.ref 180, .int (nI N), .int (nI W), .long (lN y.natAbs), .int (jI 0), .long (lN z.natAbs), .int (jI 0), .int (jI its)] H (fun v G => jm_w none 6 228 109 [.ref 180, .int (nI N), .int (nI W), .int (jI y), .int (jI z)] (v.toList ++ []) G Q) := by
        have h78 : jm_w none 6 228 78 [.ref 180, .int (nI N), .int (nI W), .int (jI y), .int (jI z)] [.long (lN z.natAbs), .int (0 : Int32), .long (lN y.natAbs), .int (nI W), .int (nI N), .ref 180] H Q = jm_c none 189 [.ref 180, .int (nI N), .int (nI W), .long (lN y.natAbs), .int (jI 0), .long (lN z.natAbs), .int (jI 0), .int (jI its)] H (fun v G => jm_w none 6 228 109 [.ref 180, .int (nI N), .int (nI W), .int (jI y), .int (jI z)] (v.toList ++ []) G Q) := by
          have h106 : ∀ v : Int32, v = jI its → jm_w none 6 228 106 [.ref 180, .int (nI N), .int (nI W), .int (jI y), .int (jI z)] [.int v, .int (0 : Int32), .long (lN z.natAbs), .int (0 : Int32), .long (lN y.natAbs), .int (nI W), .int (nI N), .ref 180] H Q = jm_c none 189 [.ref 180, .int (nI N), .int (nI W), .long (lN y.natAbs), .int (jI 0), .long (lN z.natAbs), .int (jI 0), .int (jI its)] H (fun v G => jm_w none 6 228 109 [.ref 180, .int (nI N), .int (nI W), .int (jI y), .int (jI z)] (v.toList ++ []) G Q) := by
            rintro v rfl
            rw [u228_106 (st_t180 st)]
            rfl
          rw [u228_78, ite_eqP ly]
          by_cases hy0 : 0 ≤ y
          · rw [if_pos hy0, u228_87, u228_88, ite_eqP lz]
            by_cases hz0 : 0 ≤ z
            · rw [if_pos hz0, u228_97, u228_98, if_neg (fun g => g rfl), u228_101]
              exact h106 1 (by rw [hits, if_pos (by omega)]; rfl)
            · rw [if_neg hz0, u228_93, u228_98, if_pos (by decide), u228_105]
              exact h106 (-1) (by rw [hits, if_neg (by omega)]; rfl)
          · rw [if_neg hy0, u228_83, u228_88, ite_eqP lz]
            by_cases hz0 : 0 ≤ z
            · rw [if_pos hz0, u228_97, u228_98, if_pos (by decide), u228_105]
              exact h106 (-1) (by rw [hits, if_neg (by omega)]; rfl)
            · rw [if_neg hz0, u228_93, u228_98, if_neg (fun g => g rfl), u228_101]
              exact h106 1 (by rw [hits, if_pos (by omega)]; rfl)
        rw [u228_62, ite_eqP lz]
        by_cases hz0 : 0 ≤ z
        · rw [if_pos hz0, u228_75, jI_l ⟨by omega, by omega⟩]
          have e : lI z = lN z.natAbs := by rw [lI_n]; congr 1; omega
          rw [e]
          exact h78
        · rw [if_neg hz0, u228_68, jI_neg, jI_l ⟨by omega, by omega⟩]
          have e : lI (-z) = lN z.natAbs := by rw [lI_n]; congr 1; omega
          rw [e]
          exact h78
      rw [start, u228_37, ite_eqP (congrArg Not zz), if_pos h0, u228_47, ite_eqP ly]
      by_cases hy0 : 0 ≤ y
      · rw [if_pos hy0, u228_60, jI_l ⟨by omega, by omega⟩]
        have e : lI y = lN y.natAbs := by rw [lI_n]; congr 1; omega
        rw [e]
        exact h62
      · rw [if_neg hy0, u228_54, jI_neg, jI_l ⟨by omega, by omega⟩]
        have e : lI (-y) = lN y.natAbs := by rw [lI_n]; congr 1; omega
        rw [e]
        exact h62
    have ev : jq_div (jq_wh y) (jq_wh z) = some (jq_sg y * jq_sg z, jq_st (y.natAbs * 2 ^ 40) z.natAbs, (0 : Int) - 0 - 40) := by
      unfold jq_div jq_wh
      dsimp only
      rw [if_neg (by omega)]
    by_cases hy0 : y = 0
    · refine ⟨jm_pI H 180 58 0, jq_fn_of (jq_fm_I (by decide)), fun Q => ?_⟩
      have e0 : jq_sg y = 0 := by rw [hy0]; rfl
      have ey : y.natAbs = 0 := by omega
      rw [upto, ey, c189z st]
      simp only [Option.toList_some, List.append_nil]
      rw [u228_109, ev, e0, Int.zero_mul]
      rfl
    · have hsg : jq_sg y * jq_sg z = its := by
        rw [hits]
        unfold jq_sg
        by_cases c1 : y < 0
        · rw [if_pos c1]
          by_cases c2 : z < 0
          · rw [if_pos c2, if_pos (by omega)]; rfl
          · rw [if_neg c2, if_neg h0, if_neg (by omega)]; rfl
        · rw [if_neg c1, if_neg hy0]
          by_cases c2 : z < 0
          · rw [if_pos c2, if_neg (by omega)]; rfl
          · rw [if_neg c2, if_neg h0, if_pos (by omega)]; rfl
      have hok := jq_div_ok (jq_wh_b hy) (jq_wh_b hz)
      rw [ev] at hok
      obtain ⟨k1, k2, k3, k4, k5, k6⟩ := hok
      dsimp only at k1 k2 k3 k4 k5 k6
      have k7 := k6 (by rw [hsg]; omega)
      have hX : z.natAbs * 8192 ≤ y.natAbs * 2 ^ 40 := by omega
      have hXp : 0 < y.natAbs * 2 ^ 40 := by omega
      have z0 : 0 < z.natAbs := by omega
      obtain ⟨H1, f1, _, q1⟩ := c189 (S := none) (N := N) (W := W) (m := jq_st (y.natAbs * 2 ^ 40) z.natAbs) (p := (0 : Int) - 0 - 40) st h1 h2 hw (om := y.natAbs) (op := 0) (um := z.natAbs) (uq := 0) (by omega) (by omega) z0 (by omega) (by decide) (by decide) hi (jq_rep_sq h1 h2 hw (jq_st_pos hXp) k3 (by decide) k7 (fun n R hn hR hR2 => by
        obtain ⟨n1, n2, v1, v2⟩ := jq_row_b (n := n) (W := W) (by omega) (by omega) hw hR hR2
        rw [jq_qt z0 hX (by omega) (by decide) (by omega), jq_v_sh _ _ (by decide), Int.zero_add]
        rfl))
      refine ⟨H1, jq_fn_of f1, fun Q => ?_⟩
      rw [upto, q1]
      simp only [Option.toList_some, List.append_nil]
      rw [u228_109, ev, hsg]
/-! products with a sum -/
theorem c137 {A B C : Nat} {H : jm_H} (st : jm_st H) (h1 : 3 ≤ N) (h2 : N ≤ 12) (hw : W ≤ 2) (hA : A < 2 ^ N) (hB : B < 2 ^ N) (hC : C < 2 ^ N) : ∃ H1, jf_fr jq_RR H H1 ∧ ∀ Q, jm_c S 137 [.ref 11, .int (nI N), .int (nI W), .int (nI A), .int (nI B), .int (nI C)] H Q = Q (some (.int (nI (jq_rnd N W (jq_add (jq_mul (jq_val N W A) (jq_val N W B)) (jq_val N W C))).1))) H1 := by
  have bA := jq_val_b h1 h2 hw hA
  have bB := jq_val_b h1 h2 hw hB
  have bC := jq_val_b h1 h2 hw hC
  have bP := jq_mul_b bA bB
  obtain ⟨H1, i1, _, f1, q1⟩ := c68 (S := S) (H := H) (st_t12 st) (st_r12_0 st) (by decide) (by decide) (st_t13 st) h1 h2 hw hA
  have st1 := jf_fr_st f1 st
  obtain ⟨H2, i2, _, f2, q2⟩ := c68 (S := S) (H := H1) (st_t14 st1) (st_r14_0 st1) (by decide) (by decide) (st_t15 st1) h1 h2 hw hB
  have st2 := jf_fr_st f2 st1
  have i1' : jq_is H2 12 (jq_val N W A) := jq_is_fr f2 (by decide) i1
  obtain ⟨H3, i3, f3, q3⟩ := c89 (S := S) st2 i1' i2 (jq_b_mono bA (by decide) (by decide) (by decide)) (jq_b_mono bB (by decide) (by decide) (by decide))
  have st3 := jf_fr_st f3 st2
  obtain ⟨H4, i4, f4, q4⟩ := c51 (S := S) (H := H3) (st_t12 st3) (st_t16 st3) i3 (jq_b_ok bP (by decide) (by decide) (by decide)) (Or.inl (by decide))
  have st4 := jf_fr_st f4 st3
  obtain ⟨H5, i5, _, f5, q5⟩ := c68 (S := S) (H := H4) (st_t14 st4) (st_r14_0 st4) (by decide) (by decide) (st_t15 st4) h1 h2 hw hC
  have st5 := jf_fr_st f5 st4
  have i4' : jq_is H5 12 (jq_mul (jq_val N W A) (jq_val N W B)) := jq_is_fr f5 (by decide) i4
  obtain ⟨H6, i6, f6, q6⟩ := c88 (S := S) st5 i4' i5 (jq_b_mono bP (by decide) (by decide) (by decide)) (jq_b_mono bC (by decide) (by decide) (by decide))
  have st6 := jf_fr_st f6 st5
  have fall : jf_fr jq_RR H H6 := jf_fr_trans (jf_fr_trans (jf_fr_trans (jf_fr_trans (jf_fr_trans (jf_fr_mono f1 (fun x hx => by rcases hx with rfl | rfl <;> decide)) (jf_fr_mono f2 (fun x hx => by rcases hx with rfl | rfl <;> decide))) (jf_fr_mono f3 (fun x hx => by rcases hx with rfl; decide))) (jf_fr_mono f4 (fun x hx => by rcases hx with rfl; decide))) (jf_fr_mono f5 (fun x hx => by rcases hx with rfl | rfl <;> decide))) (jf_fr_mono f6 (fun x hx => by rcases hx with rfl; decide))
  obtain ⟨H7, _, f7, q7⟩ := f49 (S := S) (N := N) (W := W) st i6 (jq_add_ok (jq_b_mono bP (by decide) (by decide) (by decide)) (jq_b_mono bC (by decide) (by decide) (by decide))) fall h1 h2 hw
  refine ⟨H7, f7, fun Q => ?_⟩
  rw [en137, u137_0 (st_t11 st) (by rw [st_r11_0 st]; decide) (by rw [st_r11_0 st]; exact st_t12 st), st_r11_0 st, q1]
  simp only [Option.toList_none, List.nil_append]
  rw [u137_10 (st_t11 st1) (by rw [st_r11_1 st1]; decide) (by rw [st_r11_1 st1]; exact st_t14 st1), st_r11_1 st1, q2]
  simp only [Option.toList_none, List.nil_append]
  rw [u137_21 (st_t11 st2), q3]
  simp only [Option.toList_none, List.nil_append]
  rw [u137_25 (st_t11 st3) (by rw [st_r11_0 st3]; decide) (by rw [st_r11_2 st3]; decide) (by rw [st_r11_0 st3]; exact st_t12 st3), st_r11_0 st3, st_r11_2 st3, q4]
  simp only [Option.toList_none, List.nil_append]
  rw [u137_36 (st_t11 st4) (by rw [st_r11_1 st4]; decide) (by rw [st_r11_1 st4]; exact st_t14 st4), st_r11_1 st4, q5]
  simp only [Option.toList_none, List.nil_append]
  rw [u137_47 (st_t11 st5), q6]
  simp only [Option.toList_none, List.nil_append]
  rw [u137_51 (st_t11 st6) (by rw [st_r11_2 st6]; decide), st_r11_2 st6, q7]
  simp only [Option.toList_some, List.append_nil]
  rw [u137_61]
theorem C136 {A B C : Nat} (h1 : 3 ≤ N) (h2 : N ≤ 12) (hw : W ≤ 2) (hA : A < 2 ^ N) (hB : B < 2 ^ N) (hC : C < 2 ^ N) : jq_C 136 [.int (nI N), .int (nI W), .int (nI A), .int (nI B), .int (nI C)] (.int (nI (jq_rnd N W (jq_add (jq_mul (jq_val N W A) (jq_val N W B)) (jq_val N W C))).1)) := fun H st => by
  obtain ⟨H1, f1, q1⟩ := c137 (S := none) st h1 h2 hw hA hB hC
  refine ⟨H1, jf_fr_mono f1 (fun q h => jq_RR_PC h), fun Q => ?_⟩
  rw [en136, u136_0, c115, if_pos ⟨jr_row_nI h1 h2 hw hA, jr_row_nI h1 h2 hw hB⟩]
  simp only [Option.toList_some, List.append_nil]
  rw [u136_8, if_neg i1_0, u136_11, c99, if_pos (jr_row_nI h1 h2 hw hC)]
  simp only [Option.toList_some, List.append_nil]
  rw [u136_18, if_pos i1_0, u136_23 (st_t2 st) (by rw [st_r2_3 st]; decide) (by rw [st_r2_3 st]; exact st_t11 st), st_r2_3 st, q1]
  simp only [Option.toList_some, List.append_nil]
  rw [u136_37]
theorem jq_val_nil {A : Nat} (hn : A = 2 ^ (N - 1)) : jq_val N W A = none := by
  unfold jq_val
  rw [if_neg (by have := p2_pos (N - 1); omega), if_pos hn]
theorem M229 {A B C : Nat} (h1 : 3 ≤ N) (h2 : N ≤ 12) (hw : W ≤ 2) (hA : A < 2 ^ N) (hB : B < 2 ^ N) (hC : C < 2 ^ N) : jq_M 229 [.int (nI N), .int (nI W), .int (nI A), .int (nI B), .int (nI C)] (.int (nI (jq_rnd N W (jq_add (jq_mul (jq_val N W A) (jq_val N W B)) (jq_val N W C))).1)) := fun H st => by
  have hp := p2_12 h2
  have start : ∀ Q, jm_c none 229 [.ref 180, .int (nI N), .int (nI W), .int (nI A), .int (nI B), .int (nI C)] H Q = jm_w none 6 229 36 [.ref 180, .int (nI N), .int (nI W), .int (nI A), .int (nI B), .int (nI C)] [.int (if A = 2 ^ (N - 1) then 1 else 0)] H Q := by
    intro Q
    rw [en229, u229_0, c220, if_pos (jr_row_nI h1 h2 hw hA)]
    simp only [Option.toList_some, List.append_nil]
    rw [u229_6, if_neg i1_0, u229_9, c220, if_pos (jr_row_nI h1 h2 hw hB)]
    simp only [Option.toList_some, List.append_nil]
    rw [u229_16, if_neg i1_0, u229_19, c220, if_pos (jr_row_nI h1 h2 hw hC)]
    simp only [Option.toList_some, List.append_nil]
    rw [u229_26, if_pos i1_0, u229_31, c204 (by omega) (by omega) (by omega)]
    simp only [Option.toList_some, List.append_nil]
  have e57 : ∀ Q, jm_w none 6 229 57 [.ref 180, .int (nI N), .int (nI W), .int (nI A), .int (nI B), .int (nI C)] [] H Q = Q (some (.int (nI (2 ^ (N - 1))))) H := by
    intro Q
    rw [u229_57, c191 (by omega) (by omega)]
    simp only [Option.toList_some, List.append_nil]
    rw [u229_61]
  by_cases hn : A = 2 ^ (N - 1) ∨ B = 2 ^ (N - 1) ∨ C = 2 ^ (N - 1)
  · have ev : jq_add (jq_mul (jq_val N W A) (jq_val N W B)) (jq_val N W C) = none := by
      rcases hn with h | h | h
      · rw [jq_val_nil h]; rfl
      · rw [jq_val_nil h]
        cases jq_val N W A <;> rfl
      · rw [jq_val_nil h]
        cases jq_mul (jq_val N W A) (jq_val N W B) <;> rfl
    refine ⟨H, jq_fn_refl H, fun Q => ?_⟩
    rw [start, ev, u229_36]
    by_cases ha : A = 2 ^ (N - 1)
    · rw [if_pos ha, if_pos i1_0, e57]; rfl
    · rw [if_neg ha, if_neg (by decide), u229_39, c204 (by omega) (by omega) (by omega)]
      simp only [Option.toList_some, List.append_nil]
      rw [u229_45]
      by_cases hb : B = 2 ^ (N - 1)
      · rw [if_pos hb, if_pos i1_0, e57]; rfl
      · have hc : C = 2 ^ (N - 1) := by
          rcases hn with h | h | h
          · exact absurd h ha
          · exact absurd h hb
          · exact h
        rw [if_neg hb, if_neg (by decide), u229_48, c204 (by omega) (by omega) (by omega), if_pos hc]
        simp only [Option.toList_some, List.append_nil]
        rw [u229_54, if_neg i1_0, e57]
        rfl
  · have ha : A ≠ 2 ^ (N - 1) := fun h => hn (Or.inl h)
    have hb : B ≠ 2 ^ (N - 1) := fun h => hn (Or.inr (Or.inl h))
    have hc : C ≠ 2 ^ (N - 1) := fun h => hn (Or.inr (Or.inr h))
    have bA := jq_val_b h1 h2 hw hA
    have bB := jq_val_b h1 h2 hw hB
    have bC := jq_b_mono (jq_val_b h1 h2 hw hC) (show 11 ≤ 24 by decide) (show 44 ≤ 89 by decide) (show 56 ≤ 112 by decide)
    have bP := jq_b_mono (jq_mul_b bA bB) (show 22 ≤ 24 by decide) (Nat.le_refl 89) (Nat.le_refl 112)
    obtain ⟨G0, z0, f0, q0⟩ := c203 (S := none) st
    have st0 := jq_fm_st f0 st
    have zb1 : ((0 : Int)).natAbs < 2 ^ 255 := by decide
    obtain ⟨G1, z1, f1, q1⟩ := c205 (S := none) (b := 1) st0 h1 h2 hw hA ha hB hb z0 (Or.inr rfl) zb1
    have st1 := jq_fm_st f1 st0
    have bz1 := jq_zx_b bP
    rw [Int.zero_add, Int.one_mul, jq_zp_x h1 h2 hw hA ha hB hb] at z1
    obtain ⟨G2, z2, f2, q2⟩ := c210 (S := none) (b := 1) st1 h1 h2 hw hC hc z1 (Or.inr rfl) (by omega)
    have st2 := jq_fm_st f2 st1
    rw [Int.one_mul, jq_zr_x h1 h2 hw hC hc] at z2
    obtain ⟨a, ea⟩ := jq_val_some (W := W) ha
    obtain ⟨b, eb⟩ := jq_val_some (W := W) hb
    obtain ⟨c, ec⟩ := jq_val_some (W := W) hc
    obtain ⟨H1, f3, _, q3⟩ := r208 (S := none) (N := N) (W := W) st2 h1 h2 hw (by rw [ea, eb]; intro h; cases h) (by rw [ec]; intro h; cases h) bP bC rfl z2
    refine ⟨H1, jq_fn_of (jq_fm_trans f0 (jq_fm_trans f1 (jq_fm_trans f2 f3))), fun Q => ?_⟩
    rw [start, if_neg ha, u229_36, if_neg (by decide), u229_39, c204 (by omega) (by omega) (by omega), if_neg hb]
    simp only [Option.toList_some, List.append_nil]
    rw [u229_45, if_neg (by decide), u229_48, c204 (by omega) (by omega) (by omega), if_neg hc]
    simp only [Option.toList_some, List.append_nil]
    rw [u229_54, if_pos rfl, u229_62 (st_t180 st), q0]
    simp only [Option.toList_none, List.nil_append]
    rw [u229_66 (st_t180 st0)]
    show jm_c none 205 [.ref 180, .int (nI N), .int (nI W), .int (nI A), .int (nI B), .int (jI 1)] G0 _ = _
    rw [q1]
    simp only [Option.toList_none, List.nil_append]
    rw [u229_76 (st_t180 st1)]
    show jm_c none 210 [.ref 180, .int (nI N), .int (nI W), .int (nI C), .int (jI 1)] G1 _ = _
    rw [q2]
    simp only [Option.toList_none, List.nil_append]
    rw [u229_85 (st_t180 st2), q3]
    simp only [Option.toList_some, List.append_nil]
    rw [u229_91]
end QUOT
