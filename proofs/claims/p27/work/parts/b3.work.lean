set_option maxRecDepth 20000
/-! the class works out the names of a text: it comes to an end, and every name is in bounds -/
def jz_R (v : Option Value) : Prop := ∃ A : Nat, A < 4096 ∧ v = some (.int (nI A))
/-- the rows that wait are in bounds -/
def jW (H0 G : jm_H) : Prop := jK H0 G ∧ ∀ k : Nat, (k : Int) < (jm_I G 10 5).toInt → 0 ≤ (jm_I G 24 k).toInt ∧ (jm_I G 24 k).toInt < 4096
theorem jW_st {H0 G : jm_H} (h : jW H0 G) : jm_st G := h.1.1.1
theorem jW_fr {P : Nat → Prop} {H0 G G' : jm_H} (h : jW H0 G) (f : jf_fr P G G') (hP : ∀ r, P r → (r < 180 ∧ jv_no r) ∧ r ≠ 24) : jW H0 G' := by
  refine ⟨jK_fr h.1 f (fun r g => (hP r g).1), fun k hk => ?_⟩
  have n10 : ¬ P 10 := fun g => (hP 10 g).1.2.2.2.2.2.2.2.2.2.2.2 rfl
  have n24 : ¬ P 24 := fun g => (hP 24 g).2 rfl
  rw [(f.2.2.2.2 10 n10).1] at hk
  rw [(f.2.2.2.2 24 n24).1]
  exact h.2 k hk
theorem jW_RR {H0 G G' : jm_H} (h : jW H0 G) (f : jf_fr jq_RR G G') : jW H0 G' := jW_fr h f (fun r g => ⟨jv_no_RR g, by have := g.1; have := g.2; omega⟩)
theorem jv_10 {v : Int32} (h : 0 ≤ v.toInt ∧ v.toInt ≤ 400) : jv 10 5 v := by
  refine ⟨fun g => ?_, fun g => ?_, fun g => ?_, fun g => ?_, fun g => ?_, fun g => ?_, fun _ _ => h⟩ <;> exfalso <;> revert g <;> (try unfold js_S) <;> (try unfold js_U) <;> omega
theorem jv_174 {k : Nat} {v : Int32} (h : 0 ≤ v.toInt ∧ v.toInt < 4096) : jv 174 k v := by
  refine ⟨fun g => ?_, fun g => ?_, fun g => ?_, fun g => ?_, fun _ _ => h, fun g => ?_, fun g => ?_⟩ <;> exfalso <;> revert g <;> (try unfold js_S) <;> (try unfold js_U) <;> omega
theorem jno_24 : jv_no 24 := by unfold jv_no js_S js_U; omega
theorem jno_r {r : Nat} (h : (11 ≤ r ∧ r ≤ 30) ∨ r = 175 ∨ r = 176) : r < 180 ∧ jv_no r := by unfold jv_no js_S js_U; omega
theorem nI_b {A : Nat} (h : A < 4096) : 0 ≤ (nI A).toInt ∧ (nI A).toInt < 4096 := by rw [nI_toInt (by omega)]; omega
theorem jW_0 {H0 G : jm_H} (h : jK H0 G) : jW H0 (jm_pI G 10 5 0) := by
  refine ⟨jK_pI h (by decide) (jv_10 (by decide)), fun k hk => ?_⟩
  rw [jm_I_pI, if_pos ⟨rfl, rfl⟩, i32_0] at hk
  omega
theorem jW_174 {H0 G : jm_H} {k A : Nat} (h : jW H0 G) (hA : A < 4096) : jW H0 (jm_pI G 174 k (nI A)) := ⟨jK_pI h.1 (by decide) (jv_174 (nI_b hA)), h.2⟩
theorem jk_high {H0 G : jm_H} (h : jW H0 G) : ∃ n : Nat, n ≤ 400 ∧ jm_I G 10 5 = nI n := by
  have h1 := (h.1.1.2.2 10 5).2.2.2.2.2.2 rfl rfl
  obtain ⟨n, hn, e⟩ := ji_nn (k := 401) h1.1 (by omega)
  exact ⟨n, by omega, e⟩
theorem jk_nm {H0 G : jm_H} (h : jK H0 G) {k : Nat} (hk : k < 8) : ∃ A : Nat, A < 4096 ∧ jm_I G 174 k = nI A := by
  have h1 := (h.1.2.2 174 k).2.2.2.2.1 rfl hk
  exact ji_nn (k := 4096) h1.1 (by omega)
theorem sw3 {x : Int32} (h0 : ¬ x = 0) (h1 : ¬ x = 1) (h2 : ¬ x = 2) : x.toInt < 0 ∨ 2 < x.toInt := by
  rcases Int.lt_or_le x.toInt 0 with g | g
  · exact Or.inl g
  · rcases Int.lt_or_le 2 x.toInt with g2 | g2
    · exact Or.inr g2
    · obtain ⟨m, hm, rfl⟩ := ji_nn (k := 3) g (by omega)
      exfalso
      match m, hm with
      | 0, _ => exact h0 rfl
      | 1, _ => exact h1 rfl
      | 2, _ => exact h2 rfl
theorem sw43 {x : Int32} (h4 : ¬ x = 4) (h5 : ¬ x = 5) (h6 : ¬ x = 6) (h7 : ¬ x = 7) (h8 : ¬ x = 8) (h9 : ¬ x = 9) : x.toInt < 4 ∨ 9 < x.toInt := by
  rcases Int.lt_or_le x.toInt 4 with g | g
  · exact Or.inl g
  · rcases Int.lt_or_le 9 x.toInt with g2 | g2
    · exact Or.inr g2
    · obtain ⟨m, hm, rfl⟩ := ji_nn (k := 10) (x := x) (by omega) (by omega)
      rw [nI_toInt (by omega)] at g
      exfalso
      match m, hm with
      | 4, _ => exact h4 rfl
      | 5, _ => exact h5 rfl
      | 6, _ => exact h6 rfl
      | 7, _ => exact h7 rfl
      | 8, _ => exact h8 rfl
      | 9, _ => exact h9 rfl
      | 0, _ => omega
      | 1, _ => omega
      | 2, _ => omega
      | 3, _ => omega
theorem clamp_lt {x : Int32} {n : Nat} (hn : n < 2147483648) (h0 : 0 ≤ x.toInt) (h : x.toInt < n) : Int32.toNatClampNeg x < n := by
  obtain ⟨m, hm, rfl⟩ := ji_nn h0 h
  rw [nI_cl (by omega)]
  exact hm
section WORKER
variable {S : Option (Nat × (Nat → Int32))} {H0 : jm_H} {N W : Nat}
theorem z65 {A : Nat} (hA : A < 4096) {G : jm_H} (hG : jW H0 G) : jz (jW H0) jz_0 (fun Q => jm_c S 65 [.ref 10, .int (nI A)] G Q) := by
  have st := jW_st hG
  have r := st_r10_4 st
  obtain ⟨n, hn, en⟩ := jk_high hG
  have h39 : jz (jW H0) jz_0 (fun Q => jm_w S 1 65 39 [.ref 10, .int (nI A)] [] G Q) := jz_eq (fun _ => u65_39) (jz_end hG rfl)
  refine jz_eq (fun _ => en65.trans (u65_0 (st_t10 st))) (jz_if (fun _ => h39) (fun _ => ?_))
  refine jz_eq (fun _ => u65_7 (st_t10 st) (by rw [r]; decide) (by rw [r]; decide) (by rw [r, st_t24 st]; decide)) ?_
  rw [r, st_l24 st, en]
  refine jz_if (fun _ => h39) (fun c => ?_)
  have hlt : n < 400 := by
    have : ¬ 400 ≤ n := fun q => c (show Int32.ofNat 400 ≤ nI n from (nI_leI (a := 400) (by decide) (by omega)).mpr q)
    omega
  refine jz_eq (fun _ => u65_19 (st_t10 st) (by rw [r]; decide) (by rw [r, st_l24 st, en]; exact nI_inK hlt (by decide)) (by rw [r]; exact st_t24 st)) ?_
  rw [r, en, nI_cl (by omega), jm_I_pI, if_neg (fun g => absurd g.1 (by decide)), en, nI_succK]
  refine jz_eq (fun _ => u65_39) (jz_end ⟨jK_pI (jK_pI hG.1 (by decide) (jv_free jno_24)) (by decide) (jv_10 (by rw [nI_toInt (by omega)]; omega)), fun k hk => ?_⟩ rfl)
  rw [jm_I_pI, if_pos ⟨rfl, rfl⟩, nI_toInt (by omega)] at hk
  rw [jm_I_pI, if_neg (fun g => absurd g.1 (by decide)), jm_I_pI]
  by_cases g : k = n
  · rw [if_pos ⟨rfl, g⟩]; exact nI_b hA
  · rw [if_neg (fun q => g q.2)]
    exact hG.2 k (by rw [en, nI_toInt (by omega)]; omega)
theorem z66 {G : jm_H} (hG : jW H0 G) : jz (jW H0) jz_R (fun Q => jm_c S 66 [.ref 10] G Q) := by
  have st := jW_st hG
  have r := st_r10_4 st
  obtain ⟨n, hn, en⟩ := jk_high hG
  have h19 : jz (jW H0) jz_R (fun Q => jm_w S 1 66 19 [.ref 10] [] G Q) := jz_eq (fun _ => u66_19) (jz_end hG ⟨0, by decide, rfl⟩)
  refine jz_eq (fun _ => en66.trans (u66_0 (st_t10 st))) (jz_if (fun _ => h19) (fun c => ?_))
  have h0 : 0 < n := by
    have : ¬ n ≤ 0 := fun q => c (by rw [en]; exact (nI_leI (b := 0) (by omega) (by decide)).mpr q)
    omega
  refine jz_eq (fun _ => u66_7 (st_t10 st) (by rw [r]; decide) (by rw [r]; decide) (by rw [r, st_t24 st]; decide)) ?_
  refine jz_if (fun _ => ?_) (fun _ => h19)
  have e1 : nI n - (1 : Int32) = nI (n - 1) := by rw [show (1 : Int32) = nI 1 from rfl, jI_n, jI_n, jI_sub, jI_n, Int.ofNat_sub h0]
  have e5 : jm_I (jm_pI G 10 5 (jm_I G 10 5 - (1 : Int32))) 10 5 = nI (n - 1) := by rw [jm_I_pI, if_pos ⟨rfl, rfl⟩, en, e1]
  refine jz_eq (fun _ => u66_21 (st_t10 st) (by rw [r]; decide) (by rw [e5, r, st_l24 st]; exact nI_inK (by omega) (by decide)) (by rw [r]; decide) (by rw [r]; exact st_t24 st)) ?_
  rw [e5, r, nI_cl (by omega), en, e1]
  have hb := hG.2 (n - 1) (by rw [en, nI_toInt (by omega)]; omega)
  obtain ⟨A, hA, eA⟩ := ji_nn (k := 4096) hb.1 (by omega)
  refine jz_end ⟨jK_pI hG.1 (by decide) (jv_10 (by rw [nI_toInt (by omega)]; omega)), fun k hk => ?_⟩ ⟨A, hA, ?_⟩
  · rw [jm_I_pI, if_pos ⟨rfl, rfl⟩, nI_toInt (by omega)] at hk
    rw [jm_I_pI, if_neg (fun g => absurd g.1 (by decide))]
    exact hG.2 k (by rw [en, nI_toInt (by omega)]; omega)
  · rw [jm_I_pI, if_neg (fun g => absurd g.1 (by decide)), eA]
theorem c46w {z : Int} (h : j3 z) {H : jm_H} : ∃ s : Int, (s = -1 ∨ s = 0 ∨ s = 1) ∧ (s = 0 ↔ z.natAbs = 0) ∧ ∀ Q, jm_c S 46 [.int (jI z)] H Q = Q (some (.int (jI s))) H := by
  by_cases hz : z = -2147483648
  · subst hz
    refine ⟨-1, Or.inl rfl, by decide, fun Q => ?_⟩
    rw [en46, u46_0]
    rw [show ((jI (-2147483648) >>> ((31 : Int32) &&& 31)) ||| ((Int32.toUInt32 (-(jI (-2147483648))) >>> (Int32.toUInt32 (31 : Int32) &&& Int32.toUInt32 31)).toInt32)) = jI (-1) from by decide]
  · refine ⟨jq_sg z, jq_sg_b z, ?_, fun Q => ?_⟩
    · unfold jq_sg
      by_cases h1 : z < 0
      · rw [if_pos h1]; omega
      · rw [if_neg h1]
        by_cases h2 : z = 0
        · rw [if_pos h2]; omega
        · rw [if_neg h2]; omega
    · have g1 := h.1
      have g2 := h.2
      rw [en46, u46_0]
      have e1 : jI z >>> ((31 : Int32) &&& 31) = jI (z / 2147483648) := jI_shr (k := 31) h (by decide)
      have e2 : (Int32.toUInt32 (-(jI z)) >>> (Int32.toUInt32 (31 : Int32) &&& Int32.toUInt32 31)).toInt32 = if 0 < z then 1 else 0 := by
        rw [jI_neg]
        apply Int32.toBitVec.inj
        apply BitVec.eq_of_toNat_eq
        rw [pk_ushr (jI (-z)) 31 31 (by decide)]
        have hb := jI_bv (-z)
        by_cases h0 : 0 < z
        · rw [if_pos h0, show (1 : Int32).toBitVec.toNat = 1 from by decide]
          have : (jI (-z)).toBitVec.toNat = 4294967296 - z.toNat := by omega
          rw [this]
          omega
        · rw [if_neg h0, show (0 : Int32).toBitVec.toNat = 0 from by decide]
          have : (jI (-z)).toBitVec.toNat = (-z).toNat := by omega
          rw [this]
          omega
      rw [e1, e2]
      unfold jq_sg
      by_cases h1 : z < 0
      · rw [if_pos h1, if_neg (by omega), show z / 2147483648 = -1 by omega]
        rfl
      · rw [if_neg h1, show z / 2147483648 = 0 by omega]
        by_cases h2 : z = 0
        · rw [if_pos h2, if_neg (by omega)]
          rfl
        · rw [if_neg h2, if_pos (by omega)]
          rfl
theorem c45w {r : Nat} {x : Int32} {H : jm_H} (ht : jm_tg H r = 3) : ∃ H1 y, jq_is H1 r y ∧ jq_ok y ∧ jf_fr (fun q => q = r) H H1 ∧ ∀ Q, jm_c S 45 [.ref r, .int x] H Q = Q none H1 := by
  have hj := j3_t x
  obtain ⟨s, s1, s2, s3⟩ := c46w (S := S) hj (H := H)
  rw [← jI_of x] at s3
  have h1 := hj.1
  have h2 := hj.2
  obtain ⟨H1, i1, f1, q1⟩ := c48' (S := S) (H := H) (s := s) (m := x.toInt.natAbs) (p := 0) ht (by omega) (fun g => s2.mpr g)
  refine ⟨H1, _, i1, ⟨s1, s2, by dsimp only; omega, by dsimp only; omega, by dsimp only; omega, fun g => ?_⟩, f1, fun Q => ?_⟩
  · have hm : x.toInt.natAbs ≠ 0 := fun q => g (s2.mpr q)
    have := (Nat.log2_lt (k := 32) hm).mpr (by omega)
    dsimp only
    omega
  · rw [en45, u45_0, s3]
    simp only [Option.toList_some, List.cons_append, List.nil_append]
    have e : Int32.toInt64 x = lI x.toInt := by
      have := jI_l (z := x.toInt) hj
      rw [← jI_of x] at this
      exact this
    rw [u45_5, e, c47 ⟨by omega, by omega⟩]
    simp only [Option.toList_some, List.cons_append, List.nil_append]
    rw [u45_10 ht, ← lI_n]
    show jm_c S 48 [.ref r, .int (jI s), .long (lN x.toInt.natAbs), .int (jI 0)] H _ = _
    rw [q1]
    simp only [Option.toList_none, List.nil_append]
    rw [u45_14]
theorem rnd_R (h1 : 3 ≤ N) (h2 : N ≤ 12) (x : Option (Int × Nat × Int)) : jz_R (some (.int (nI (jq_rnd N W x).1))) := ⟨_, Nat.lt_of_lt_of_le (jq_rnd_lt h1) (p2_12 h2), rfl⟩
theorem z44 (h1 : 3 ≤ N) (h2 : N ≤ 12) (hw : W ≤ 2) {x : Int32} {G : jm_H} (hG : jW H0 G) : jz (jW H0) jz_R (fun Q => jm_c S 44 [.ref 11, .int (nI N), .int (nI W), .int x] G Q) := by
  have st := jW_st hG
  have r := st_r11_2 st
  obtain ⟨H1, y, i1, o1, f1, q1⟩ := c45w (S := S) (x := x) (st_t16 st)
  have st1 := jf_fr_st f1 st
  have k1 : jW H0 H1 := jW_fr hG f1 (fun r g => ⟨jno_r (by omega), by omega⟩)
  obtain ⟨H2, _, f2, q2⟩ := c49 (S := S) (N := N) (W := W) st1 (st_t16 st1) i1 o1 h1 h2 hw
  have k2 : jW H0 H2 := jW_fr k1 f2 (fun r g => ⟨jno_r (by omega), by omega⟩)
  refine jz_eq (fun _ => en44.trans (u44_0 (st_t11 st) (by rw [r]; decide) (by rw [r]; exact st_t16 st))) ?_
  rw [r]
  refine jz_eq (fun _ => q1 _) ?_
  refine jz_eq (fun _ => u44_8 (st_t11 st1) (by rw [st_r11_2 st1]; decide)) ?_
  rw [st_r11_2 st1]
  refine jz_eq (fun _ => q2 _) ?_
  exact jz_eq (fun _ => u44_18) (jz_end k2 (rnd_R h1 h2 _))
theorem z67 (h1 : 3 ≤ N) (h2 : N ≤ 12) (hw : W ≤ 2) {A : Nat} (hA : A < 4096) {G : jm_H} (hG : jW H0 G) : jz (jW H0) jz_R (fun Q => jm_c S 67 [.ref 11, .int (nI N), .int (nI W), .int (nI A)] G Q) := by
  obtain ⟨H1, f1, q1⟩ := c67g (S := S) (jW_st hG) h1 h2 hw hA
  exact jz_eq q1 (jz_end (jW_RR hG f1) (rnd_R h1 h2 _))
theorem z87 (h1 : 3 ≤ N) (h2 : N ≤ 12) (hw : W ≤ 2) {A B : Nat} (hA : A < 4096) (hB : B < 4096) {x : Int32} {G : jm_H} (hG : jW H0 G) : jz (jW H0) jz_R (fun Q => jm_c S 87 [.ref 11, .int (nI N), .int (nI W), .int (nI A), .int (nI B), .int x] G Q) := by
  by_cases h0 : x = 0
  · subst h0
    obtain ⟨H1, _, f1, q1⟩ := c87g (S := S) (jW_st hG) h1 h2 hw hA hB 0 (by decide)
    exact jz_eq q1 (jz_end (jW_RR hG f1) (rnd_R h1 h2 _))
  by_cases h1' : x = 1
  · subst h1'
    obtain ⟨H1, _, f1, q1⟩ := c87g (S := S) (jW_st hG) h1 h2 hw hA hB 1 (by decide)
    exact jz_eq q1 (jz_end (jW_RR hG f1) (rnd_R h1 h2 _))
  by_cases h2' : x = 2
  · subst h2'
    obtain ⟨H1, _, f1, q1⟩ := c87g (S := S) (jW_st hG) h1 h2 hw hA hB 2 (by decide)
    exact jz_eq q1 (jz_end (jW_RR hG f1) (rnd_R h1 h2 _))
  have st := jW_st hG
  have r0 := st_r11_0 st
  obtain ⟨H1, i1, _, f1, q1⟩ := c68g (S := S) (H := G) (st_t12 st) (st_r12_0 st) (by decide) (by decide) (st_t13 st) h1 h2 hw hA
  have st1 := jf_fr_st f1 st
  obtain ⟨H2, i2, _, f2, q2⟩ := c68g (S := S) (H := H1) (st_t14 st1) (st_r14_0 st1) (by decide) (by decide) (st_t15 st1) h1 h2 hw hB
  have st2 := jf_fr_st f2 st1
  have i1' : jq_is H2 12 (jg_val N W A) := jq_is_fr f2 (by decide) i1
  have bA := jg_val_b (A := A) h1 h2 hw
  have bB := jg_val_b (A := B) h1 h2 hw
  obtain ⟨H3, i3, f3, q3⟩ := c90 (S := S) st2 i1' i2 (jq_b_mono bA (by decide) (by decide) (by decide)) (jq_b_mono bB (by decide) (by decide) (by decide))
  have st3 := jf_fr_st f3 st2
  obtain ⟨H4, _, f4, q4⟩ := c49 (S := S) st3 (st_t16 st3) i3 (jq_div_ok (jq_b_mono bA (by decide) (by decide) (by decide)) (jq_b_mono bB (by decide) (by decide) (by decide))) h1 h2 hw
  have k1 : jW H0 H1 := jW_fr hG f1 (fun r g => ⟨jno_r (by omega), by omega⟩)
  have k2 : jW H0 H2 := jW_fr k1 f2 (fun r g => ⟨jno_r (by omega), by omega⟩)
  have k3 : jW H0 H3 := jW_fr k2 f3 (fun r g => ⟨jno_r (by omega), by omega⟩)
  have k4 : jW H0 H4 := jW_fr k3 f4 (fun r g => ⟨jno_r (by omega), by omega⟩)
  refine jz_eq (fun _ => en87.trans (u87_0 (st_t11 st) (by rw [r0]; decide) (by rw [r0]; exact st_t12 st))) ?_
  rw [r0]
  refine jz_eq (fun _ => q1 _) ?_
  refine jz_eq (fun _ => u87_10 (st_t11 st1) (by rw [st_r11_1 st1]; decide) (by rw [st_r11_1 st1]; exact st_t14 st1)) ?_
  rw [st_r11_1 st1]
  refine jz_eq (fun _ => q2 _) ?_
  refine jz_eq (fun _ => u87_21) ?_
  refine jz_eq (fun _ => u87_23_d (sw3 h0 h1' h2')) ?_
  refine jz_eq (fun _ => u87_84 (st_t11 st2)) ?_
  refine jz_eq (fun _ => q3 _) ?_
  refine jz_eq (fun _ => u87_88 (st_t11 st3) (by rw [st_r11_2 st3]; decide)) ?_
  rw [st_r11_2 st3]
  refine jz_eq (fun _ => q4 _) ?_
  exact jz_eq (fun _ => u87_98) (jz_end k4 (rnd_R h1 h2 _))
theorem jU_18 : jU 18 := Or.inl rfl
theorem jW_S {G G' : jm_H} (h : jW H0 G) (f : jS 18 G G') : jW H0 G' := jW_fr h f.1 (fun r g => ⟨jno_r (by omega), by omega⟩)
theorem jW_S0 {G : jm_H} (h : jW H0 G) : jS 18 G G := jS_refl h.1
theorem z68 {r q A : Nat} (h1 : 3 ≤ N) (h2 : N ≤ 12) (hw : W ≤ 2) (hA : A < 4096) (hr : (r = 20 ∧ q = 21) ∨ (r = 22 ∧ q = 23)) {G : jm_H} (hG : jW H0 G) : jz (jW H0) jz_0 (fun Q => jm_c S 68 [.ref r, .int (nI N), .int (nI W), .int (nI A)] G Q) := by
  have st := jW_st hG
  have hh : jm_tg G r = 3 ∧ jm_R G r 0 = q ∧ jm_tg G q = 5 := by
    rcases hr with ⟨rfl, rfl⟩ | ⟨rfl, rfl⟩
    · exact ⟨st_t20 st, st_r20_0 st, st_t21 st⟩
    · exact ⟨st_t22 st, st_r22_0 st, st_t23 st⟩
  obtain ⟨H1, _, _, f1, q1⟩ := c68g (S := S) (H := G) hh.1 hh.2.1 (by omega) (by omega) hh.2.2 h1 h2 hw hA
  exact jz_eq q1 (jz_end (jW_fr hG f1 (fun x g => ⟨jno_r (by omega), by omega⟩)) rfl)
theorem l79 (h1 : 3 ≤ N) (h2 : N ≤ 12) (hw : W ≤ 2) {x3 : Int32} : ∀ (d i : Nat), x3.toInt ≤ i + d → i < 2147483648 → ∀ {G : jm_H}, jW H0 G → jz (jW H0) jz_0 (fun Q => jm_w S 6 79 10 [.ref 10, .int (nI N), .int (nI W), .int x3, .int (nI i)] [] G Q) := by
  have h64 : ∀ {i : Nat} {G : jm_H}, jW H0 G → jz (jW H0) jz_0 (fun Q => jm_w S 6 79 64 [.ref 10, .int (nI N), .int (nI W), .int x3, .int (nI i)] [] G Q) := by
    intro i G hG
    have st := jW_st hG
    have r1 := st_r10_1 st
    have r2 := st_r10_2 st
    refine jz_eq (fun _ => u79_64 (st_t10 st) (by rw [r1]; decide) (by rw [r2]; decide) (by rw [r1]; exact st_t18 st)) ?_
    rw [r1, r2]
    refine jz_call (z83 jU_18 st (st_t20 st)) (fun v G1 hT hv => ?_)
    obtain rfl := hv
    obtain ⟨f1, st1, y, i1, o1⟩ := hT
    have k1 : jW H0 G1 := jW_fr hG f1 (fun x g => ⟨jno_r (by omega), by omega⟩)
    obtain ⟨H2, _, f2, q2⟩ := c49 (S := S) (N := N) (W := W) st1 (st_t20 st1) i1 o1 h1 h2 hw
    have k2 : jW H0 H2 := jW_fr k1 f2 (fun r g => ⟨jno_r (by omega), by omega⟩)
    refine jz_eq (fun _ => u79_75 (st_t10 st1) (by rw [st_r10_0 st1]; decide) (by rw [st_r10_2 st1]; decide) (by rw [st_r10_0 st1]; exact st_t11 st1)) ?_
    rw [st_r10_0 st1, st_r10_2 st1]
    refine jz_eq (fun _ => q2 _) ?_
    refine jz_eq (fun _ => u79_89 (st_t10 (jW_st k2))) ?_
    refine jz_call (z65 (Nat.lt_of_lt_of_le (jq_rnd_lt h1) (p2_12 h2)) k2) (fun v G2 k3 hv => ?_)
    obtain rfl := hv
    exact jz_eq (fun _ => u79_92) (jz_end k3 rfl)
  intro d
  induction d with
  | zero =>
    intro i hd hi G hG
    refine jz_eq (fun _ => u79_10) (jz_if (fun _ => h64 hG) (fun c => absurd (Int32.le_iff_toInt_le.mpr (by rw [nI_toInt hi]; omega)) c))
  | succ d ih =>
    intro i hd hi G hG
    refine jz_eq (fun _ => u79_10) (jz_if (fun _ => h64 hG) (fun c => ?_))
    have hlt : i < x3.toInt := by
      have : ¬ x3.toInt ≤ (nI i).toInt := fun q => c (Int32.le_iff_toInt_le.mpr q)
      rw [nI_toInt hi] at this
      omega
    have hx := Int32.toInt_lt x3
    have st := jW_st hG
    refine jz_eq (fun _ => u79_16 (st_t10 st) (by rw [st_r10_2 st]; decide)) ?_
    rw [st_r10_2 st]
    refine jz_call (z66 hG) (fun v G hG hv => ?_)
    obtain ⟨A, hA, rfl⟩ := hv
    have st := jW_st hG
    refine jz_eq (fun _ => u79_26 (st_t20 st)) ?_
    refine jz_call (z68 h1 h2 hw hA (Or.inl ⟨rfl, rfl⟩) hG) (fun v G hG hv => ?_)
    obtain rfl := hv
    have st := jW_st hG
    refine jz_eq (fun _ => u79_29 (st_t10 st) (by rw [st_r10_3 st]; decide)) ?_
    rw [st_r10_3 st]
    refine jz_call (z66 hG) (fun v G hG hv => ?_)
    obtain ⟨B, hB, rfl⟩ := hv
    have st := jW_st hG
    refine jz_eq (fun _ => u79_39 (st_t22 st)) ?_
    refine jz_call (z68 h1 h2 hw hB (Or.inr ⟨rfl, rfl⟩) hG) (fun v G hG hv => ?_)
    obtain rfl := hv
    have st := jW_st hG
    refine jz_eq (fun _ => u79_42 (st_t10 st) (by rw [st_r10_1 st]; decide) (by rw [st_r10_2 st]; decide) (by rw [st_r10_3 st]; decide) (by rw [st_r10_1 st]; exact st_t18 st)) ?_
    rw [st_r10_1 st, st_r10_2 st, st_r10_3 st]
    refine jz_call (z80 jU_18 (fun h => st_t20 h) (fun h => st_t22 h) (jW_S0 hG)) (fun v G1 hS hv => ?_)
    obtain rfl := hv
    refine jz_eq (fun _ => u79_58) ?_
    rw [nI_succK]
    exact ih (i + 1) (by omega) (by omega) (jW_S hG hS)
theorem z79 (h1 : 3 ≤ N) (h2 : N ≤ 12) (hw : W ≤ 2) {x3 : Int32} {G : jm_H} (hG : jW H0 G) : jz (jW H0) jz_0 (fun Q => jm_c S 79 [.ref 10, .int (nI N), .int (nI W), .int x3] G Q) := by
  have st := jW_st hG
  refine jz_eq (fun _ => en79.trans (u79_0 (st_t10 st) (by rw [st_r10_1 st]; decide) (by rw [st_r10_1 st]; exact st_t18 st))) ?_
  rw [st_r10_1 st]
  refine jz_call (z42 jU_18 (jW_S0 hG)) (fun v G1 hS hv => ?_)
  obtain rfl := hv
  refine jz_eq (fun _ => u79_7) ?_
  exact l79 (S := S) h1 h2 hw x3.toInt.toNat 0 (by omega) (by decide) (jW_S hG hS)
theorem y43 {T : Nat} (hT : T = 7 ∨ T = 177) (h1 : 3 ≤ N) (h2 : N ≤ 12) (hw : W ≤ 2) {G : jm_H} (hG : jW H0 G) {w6 w7 : Value} : jz (jW H0) jz_0 (fun Q => jm_w S 7 43 8 [.ref 10, .ref T, .int (nI N), .int (nI W), .ref 174, .int (nI 0), w6, w7] [] G Q) := by
  have b248 : ∀ {x5 : Int32} {w6 : Value} {w7 : Value} {G : jm_H}, jW H0 G → jz (jW H0) jz_0 (fun Q => jm_w S 7 43 248 [.ref 10, .ref T, .int (nI N), .int (nI W), .ref 174, .int x5, w6, w7] [] G Q) := by
    intro x5 w6 w7 G hG
    have st := jW_st hG
    have tx := tx_at hT st
    refine jz_eq (fun _ => u43_248) ?_
    exact jz_end (hG) rfl
  have loop8 : ∀ (d : Nat) (i : Nat), ∀ {w6 : Value} {w7 : Value} {G : jm_H}, i + d = 400 → jW H0 G → jz (jW H0) jz_0 (fun Q => jm_w S 7 43 8 [.ref 10, .ref T, .int (nI N), .int (nI W), .ref 174, .int (nI i), w6, w7] [] G Q) := by
    intro d
    induction d with
    | zero =>
      intro i w6 w7 G hm hG
      have st := jW_st hG
      have tx := tx_at hT st
      refine jz_eq (fun _ => u43_8 tx.1) (jz_if (fun _ => b248 hG) (fun _ => ?_))
      refine jz_eq (fun _ => u43_17 tx.1 (by rw [tx.2.2.2.2.2.1]; omega) (by rw [tx.2.2.2.2.2.1]; omega) (by rw [tx.2.2.2.2.2.1, tx.2.1]; decide)) ?_
      rw [tx.2.2.2.2.2.1, tx.2.2.1]
      exact jz_if (fun _ => b248 hG) (fun c => absurd (show Int32.ofNat 400 ≤ nI i from (nI_leI (a := 400) (by decide) (by omega)).mpr (by omega)) c)
    | succ d ih =>
      intro i w6 w7 G hm hG
      have b242 : ∀ {x6 : Int32} {w7 : Value} {G : jm_H}, jW H0 G → jz (jW H0) jz_0 (fun Q => jm_w S 7 43 242 [.ref 10, .ref T, .int (nI N), .int (nI W), .ref 174, .int (nI i), .int x6, w7] [] G Q) := by
        intro x6 w7 G hG
        have st := jW_st hG
        have tx := tx_at hT st
        refine jz_eq (fun _ => u43_242) ?_
        rw [nI_succK]
        exact ih (i + 1) (by omega) (hG)
      have b133 : ∀ (xv : Nat), ∀ {x6 : Int32} {w7 : Value} {G : jm_H}, xv < 4096 → jW H0 G → jz (jW H0) jz_0 (fun Q => jm_w S 7 43 133 [.ref 10, .ref T, .int (nI N), .int (nI W), .ref 174, .int (nI i), .int x6, w7] [.int (nI xv), .ref 10] G Q) := by
        intro xv x6 w7 G hxv hG
        have st := jW_st hG
        have tx := tx_at hT st
        refine jz_eq (fun _ => u43_133 (st_t10 st)) ?_
        refine jz_call (z65 hxv (hG)) (fun v G hG hv => ?_)
        obtain rfl := hv
        have st := jW_st hG
        have tx := tx_at hT st
        refine jz_eq (fun _ => u43_136) ?_
        exact b242 (hG)
      have b132 : ∀ {x6 : Int32} {w7 : Value} {G : jm_H}, jW H0 G → jz (jW H0) jz_0 (fun Q => jm_w S 7 43 132 [.ref 10, .ref T, .int (nI N), .int (nI W), .ref 174, .int (nI i), .int x6, w7] [.ref 10] G Q) := by
        intro x6 w7 G hG
        have st := jW_st hG
        have tx := tx_at hT st
        refine jz_eq (fun _ => u43_132) ?_
        exact b133 0 (by decide) (hG)
      have b53 : ∀ {x6 : Int32} {p0 : Int32} {w7 : Value} {G : jm_H}, jW H0 G → jz (jW H0) jz_0 (fun Q => jm_w S 7 43 53 [.ref 10, .ref T, .int (nI N), .int (nI W), .ref 174, .int (nI i), .int x6, w7] [.int p0] G Q) := by
        intro x6 p0 w7 G hG
        by_cases hs0 : p0 = (4 : Int32)
        · subst hs0
          have st := jW_st hG
          have tx := tx_at hT st
          refine jz_eq (fun _ => u43_53_4) ?_
          have st := jW_st hG
          have tx := tx_at hT st
          have e10_0 : jm_R G 10 0 = 11 := st_r10_0 st
          refine jz_eq (fun _ => u43_92 (st_t10 st) (by simp only [e10_0]; decide) (by simp only [e10_0]; exact st_t11 st)) ?_
          simp only [e10_0]
          refine jz_call (z44 h1 h2 hw (hG)) (fun v G hG hv => ?_)
          obtain ⟨xv, hxv, rfl⟩ := hv
          have st := jW_st hG
          have tx := tx_at hT st
          refine jz_eq (fun _ => u43_104 (st_t10 st)) ?_
          refine jz_call (z65 hxv (hG)) (fun v G hG hv => ?_)
          obtain rfl := hv
          have st := jW_st hG
          have tx := tx_at hT st
          refine jz_eq (fun _ => u43_107) ?_
          exact b242 (hG)
        by_cases hs1 : p0 = (5 : Int32)
        · subst hs1
          have st := jW_st hG
          have tx := tx_at hT st
          refine jz_eq (fun _ => u43_53_5) ?_
          have st := jW_st hG
          have tx := tx_at hT st
          refine jz_eq (fun _ => u43_110) ?_
          refine jz_if (fun c110 => ?_) (fun c110 => ?_)
          · exact b132 (hG)
          · have st := jW_st hG
            have tx := tx_at hT st
            refine jz_eq (fun _ => u43_116 (by decide) (by simp only [st_t174 st]; decide)) ?_
            simp only [st_l174 st]
            refine jz_if (fun c116 => ?_) (fun c116 => ?_)
            · exact b132 (hG)
            · have st := jW_st hG
              have tx := tx_at hT st
              refine jz_eq (fun _ => u43_124 (by simp only [st_l174 st]; exact idx_of (by decide) (ti_lt0 c110) (ti_nle (by decide) c116)) (by decide) (st_t174 st)) ?_
              obtain ⟨A, hA, eA⟩ := jk_nm (k := (Int32.toNatClampNeg _)) hG.1 (clamp_lt (n := 8) (by decide) (ti_lt0 c110) (ti_nle (n := 8) (by decide) c116))
              rw [eA]
              exact b133 A hA (hG)
        by_cases hs2 : p0 = (6 : Int32)
        · subst hs2
          have st := jW_st hG
          have tx := tx_at hT st
          refine jz_eq (fun _ => u43_53_6) ?_
          have st := jW_st hG
          have tx := tx_at hT st
          refine jz_eq (fun _ => u43_139 (st_t10 st)) ?_
          refine jz_call (z66 (hG)) (fun v G hG hv => ?_)
          obtain ⟨xv, hxv, rfl⟩ := hv
          have st := jW_st hG
          have tx := tx_at hT st
          refine jz_eq (fun _ => u43_145) ?_
          refine jz_call ((jz_eq (fun _ => c64g h2) (jz_end (hG) (show jz_R _ from ⟨_, Nat.lt_of_lt_of_le (jg_neg_lt N _) (p2_12 h2), rfl⟩)))) (fun v G hG hv => ?_)
          obtain ⟨xv, hxv, rfl⟩ := hv
          have st := jW_st hG
          have tx := tx_at hT st
          refine jz_eq (fun _ => u43_148 (st_t10 st)) ?_
          refine jz_call (z65 hxv (hG)) (fun v G hG hv => ?_)
          obtain rfl := hv
          have st := jW_st hG
          have tx := tx_at hT st
          refine jz_eq (fun _ => u43_151) ?_
          exact b242 (hG)
        by_cases hs3 : p0 = (7 : Int32)
        · subst hs3
          have st := jW_st hG
          have tx := tx_at hT st
          refine jz_eq (fun _ => u43_53_7) ?_
          have st := jW_st hG
          have tx := tx_at hT st
          have e10_0 : jm_R G 10 0 = 11 := st_r10_0 st
          refine jz_eq (fun _ => u43_154 (st_t10 st) (by simp only [e10_0]; decide)) ?_
          simp only [e10_0]
          refine jz_call (z66 (hG)) (fun v G hG hv => ?_)
          obtain ⟨xv, hxv, rfl⟩ := hv
          have st := jW_st hG
          have tx := tx_at hT st
          refine jz_eq (fun _ => u43_165 (st_t11 st)) ?_
          refine jz_call (z67 h1 h2 hw hxv (hG)) (fun v G hG hv => ?_)
          obtain ⟨xv, hxv, rfl⟩ := hv
          have st := jW_st hG
          have tx := tx_at hT st
          refine jz_eq (fun _ => u43_168 (st_t10 st)) ?_
          refine jz_call (z65 hxv (hG)) (fun v G hG hv => ?_)
          obtain rfl := hv
          have st := jW_st hG
          have tx := tx_at hT st
          refine jz_eq (fun _ => u43_171) ?_
          exact b242 (hG)
        by_cases hs4 : p0 = (8 : Int32)
        · subst hs4
          have st := jW_st hG
          have tx := tx_at hT st
          refine jz_eq (fun _ => u43_53_8) ?_
          have st := jW_st hG
          have tx := tx_at hT st
          refine jz_eq (fun _ => u43_174 (st_t10 st)) ?_
          refine jz_call (z79 h1 h2 hw (hG)) (fun v G hG hv => ?_)
          obtain rfl := hv
          have st := jW_st hG
          have tx := tx_at hT st
          refine jz_eq (fun _ => u43_182) ?_
          exact b242 (hG)
        by_cases hs5 : p0 = (9 : Int32)
        · subst hs5
          have st := jW_st hG
          have tx := tx_at hT st
          refine jz_eq (fun _ => u43_53_9) ?_
          have st := jW_st hG
          have tx := tx_at hT st
          refine jz_eq (fun _ => u43_185) ?_
          refine jz_if (fun c185 => ?_) (fun c185 => ?_)
          · exact b242 (hG)
          · have st := jW_st hG
            have tx := tx_at hT st
            refine jz_eq (fun _ => u43_190 (by decide) (by simp only [st_t174 st]; decide)) ?_
            simp only [st_l174 st]
            refine jz_if (fun c190 => ?_) (fun c190 => ?_)
            · exact b242 (hG)
            · have st := jW_st hG
              have tx := tx_at hT st
              refine jz_eq (fun _ => u43_198 (st_t10 st)) ?_
              refine jz_call (z66 (hG)) (fun v G hG hv => ?_)
              obtain ⟨xv, hxv, rfl⟩ := hv
              have st := jW_st hG
              have tx := tx_at hT st
              refine jz_eq (fun _ => u43_206 (by simp only [st_l174 st]; exact idx_of (by decide) (ti_lt0 c185) (ti_nle (by decide) c190)) (st_t174 st)) ?_
              exact b242 (jW_174 (hG) hxv)
        have st := jW_st hG
        have tx := tx_at hT st
        refine jz_eq (fun _ => u43_53_d (sw43 hs0 hs1 hs2 hs3 hs4 hs5)) ?_
        have st := jW_st hG
        have tx := tx_at hT st
        refine jz_eq (fun _ => u43_210 (st_t10 st)) ?_
        refine jz_call (z66 (hG)) (fun v G hG hv => ?_)
        obtain ⟨xv, hxv, rfl⟩ := hv
        have st := jW_st hG
        have tx := tx_at hT st
        have e10_0 : jm_R G 10 0 = 11 := st_r10_0 st
        refine jz_eq (fun _ => u43_214 (st_t10 st) (by simp only [e10_0]; decide)) ?_
        simp only [e10_0]
        refine jz_call (z66 (hG)) (fun v G hG hv => ?_)
        obtain ⟨yv, hyv, rfl⟩ := hv
        have st := jW_st hG
        have tx := tx_at hT st
        have eT_0 : jm_R G T 0 = T + 1 := (tx.2.2.2.2.2.1)
        refine jz_eq (fun _ => u43_227 (tx.1) (by simp only [eT_0]; omega) (by simp only [eT_0, tx.2.2.1]; exact nI_inK (by omega) (by decide)) (by simp only [eT_0]; omega) (by simp only [eT_0]; exact tx.2.1) (st_t11 st)) ?_
        simp only [eT_0]
        refine jz_call (z87 h1 h2 hw hyv hxv (hG)) (fun v G hG hv => ?_)
        obtain ⟨xv, hxv, rfl⟩ := hv
        have st := jW_st hG
        have tx := tx_at hT st
        refine jz_eq (fun _ => u43_239 (st_t10 st)) ?_
        refine jz_call (z65 hxv (hG)) (fun v G hG hv => ?_)
        obtain rfl := hv
        exact b242 (hG)
      have st := jW_st hG
      have tx := tx_at hT st
      refine jz_eq (fun _ => u43_8 (tx.1)) ?_
      refine jz_if (fun c8 => ?_) (fun c8 => ?_)
      · exact b248 (hG)
      · have st := jW_st hG
        have tx := tx_at hT st
        have eT_0 : jm_R G T 0 = T + 1 := (tx.2.2.2.2.2.1)
        refine jz_eq (fun _ => u43_17 (tx.1) (by simp only [eT_0]; omega) (by simp only [eT_0]; omega) (by simp only [eT_0, tx.2.1]; decide)) ?_
        simp only [eT_0]
        refine jz_if (fun c17 => ?_) (fun c17 => ?_)
        · exact b248 (hG)
        · have st := jW_st hG
          have tx := tx_at hT st
          have eT_1 : jm_R G T 1 = T + 2 := (tx.2.2.2.2.2.2)
          refine jz_eq (fun _ => u43_27 (tx.1) (by simp only [eT_1]; omega) (by simp only [eT_1]; omega) (by simp only [eT_1, tx.2.2.2.1]; decide)) ?_
          simp only [eT_1]
          refine jz_if (fun c27 => ?_) (fun c27 => ?_)
          · exact b248 (hG)
          · have st := jW_st hG
            have tx := tx_at hT st
            have eT_1 : jm_R G T 1 = T + 2 := (tx.2.2.2.2.2.2)
            have eT_0 : jm_R G T 0 = T + 1 := (tx.2.2.2.2.2.1)
            refine jz_eq (fun _ => u43_37 (tx.1) (by simp only [eT_1, eT_0]; omega) (by simp only [eT_0, eT_1, tx.2.2.2.2.1]; exact nI_inK (by omega) (by decide)) (by simp only [eT_1, eT_0]; omega) (by simp only [eT_1, eT_0]; exact tx.2.2.2.1) (by simp only [eT_1, eT_0]; omega) (by simp only [eT_0, eT_1, tx.2.2.1]; exact nI_inK (by omega) (by decide)) (by simp only [eT_1, eT_0]; omega) (by simp only [eT_1, eT_0]; exact tx.2.1)) ?_
            simp only [eT_1, eT_0]
            exact b53 (hG)
  exact loop8 400 0 (by decide) hG
theorem z43 {T : Nat} (hT : T = 7 ∨ T = 177) (h1 : 3 ≤ N) (h2 : N ≤ 12) (hw : W ≤ 2) {G : jm_H} (hG : jK H0 G) : jz (jK H0) jz_0 (fun Q => jm_c S 43 [.ref 10, .ref T, .int (nI N), .int (nI W), .ref 174] G Q) :=
  jz_mono (jz_eq (fun _ => en43.trans (u43_0 (st_t10 hG.1.1))) (y43 (S := S) hT h1 h2 hw (jW_0 hG))) (fun _ h => h.1) (fun _ h => h)
end WORKER
