set_option maxRecDepth 20000
section NEARM
variable {S : Option (Nat × (Nat → Int32))} {H : jm_H} {Q : Option Value → jm_H → Prop} {z : Int}
theorem t245 {r h q d : Nat} {x5 : Int32} {y8 y10 y12 : Int64} {w16 w18 w20 : Value} (hh : h ≤ 44) (hz1 : -35184372088832 ≤ z) (hz2 : z ≤ 35184372088832) (hd : d ≤ q) (hq : q ≤ 1000) : jm_w S 1 245 17 [.ref r, .long (lI z), .null, .int (nI h), .int (nI q), .int x5, .long (lI ((2 ^ h : Nat) : Int)), .null, .long y8, .null, .long y10, .null, .long y12, .null, .long (lI d), .null, w16, .null, w18, .null, w20, .null] [] H Q = jm_w S 1 245 91 [.ref r, .long (lI z), .null, .int (nI h), .int (nI q), .int x5, .long (lI ((2 ^ h : Nat) : Int)), .null, .long y8, .null, .long y10, .null, .long y12, .null, .long (lI d), .null, .long (lI (z * d)), .null, .long (lI (jn_p z ((2 ^ h : Nat) : Int) d)), .null, .long (lI (jn_m z ((2 ^ h : Nat) : Int) d)), .null] [] H Q := by
  obtain ⟨u1, u2⟩ := jn_u hh
  generalize ((2 ^ h : Nat) : Int) = u at u1 u2 ⊢
  obtain ⟨g1, g2⟩ := jn_zd (d := (d : Int)) hz1 hz2 (by omega) (by omega)
  have h1 := Int.emod_nonneg (z * d) (show u ≠ 0 by omega)
  have h2 := Int.emod_lt_of_pos (z * d) u1
  have t1 := jn_td (x := z * d) u1
  have t2 := Int.natAbs_tdiv_le_natAbs (z * d) u
  have t3 : ((z * d).tdiv u * u).natAbs ≤ (z * d).natAbs := by
    have e := Int.natAbs_mul ((z * d).tdiv u) u
    rw [e, Int.natAbs_tdiv]
    exact Nat.div_mul_le_self _ _
  have c1 : ¬ (0 < lg_cmp (lI d) (Int32.toInt64 (nI q))) := by
    rw [nI_lI (by omega), lg_cmp_gt, lI_lt ⟨by omega, by omega⟩ ⟨by omega, by omega⟩]
    omega
  have c2 : ¬ lI u = 0 := by
    rw [lI_0', lI_eq ⟨by omega, by omega⟩ (by decide)]
    omega
  have f56 : jm_w S 1 245 56 [.ref r, .long (lI z), .null, .int (nI h), .int (nI q), .int x5, .long (lI u), .null, .long y8, .null, .long y10, .null, .long y12, .null, .long (lI d), .null, .long (lI (z * d)), .null, .long (lI (z * d / u)), .null, w20, .null] [] H Q = jm_w S 1 245 91 [.ref r, .long (lI z), .null, .int (nI h), .int (nI q), .int x5, .long (lI u), .null, .long y8, .null, .long y10, .null, .long y12, .null, .long (lI d), .null, .long (lI (z * d)), .null, .long (lI (jn_p z u d)), .null, .long (lI (jn_m z u d)), .null] [] H Q := by
    rw [u245_56, lI_mul, lI_sub, jn_rest, show (2 : Int64) = lI 2 from rfl, lI_mul]
    have cc : (lg_cmp (lI (2 * (z * d % u))) (lI u) ≤ 0) = (z * d % u ≤ u - z * d % u) := by
      rw [lg_cmp_le, lI_le ⟨by omega, by omega⟩ ⟨by omega, by omega⟩]
      exact propext ⟨fun g => by omega, fun g => by omega⟩
    rw [ite_eqP cc]
    unfold jn_p jn_m
    by_cases hc : z * d % u ≤ u - z * d % u
    · rw [if_pos hc, if_pos hc, if_pos hc]
    · rw [if_neg hc, if_neg hc, if_neg hc, u245_78, show (1 : Int64) = lI 1 from rfl, lI_add, lI_sub]
  rw [u245_17, if_neg c1, u245_26 c2, lI_mul z, lI_d ⟨by omega, by omega⟩ (by omega) ⟨by omega, by omega⟩ (by omega), lI_mul]
  have c3 : (lg_cmp (lI ((z * d).tdiv u * u)) (lI (z * d)) ≤ 0) = ((z * d).tdiv u * u ≤ z * d) := by
    rw [lg_cmp_le]
    exact propext (lI_le ⟨by omega, by omega⟩ ⟨by omega, by omega⟩)
  rw [ite_eqP c3]
  by_cases hc : (z * d).tdiv u * u ≤ z * d
  · rw [if_pos hc, t1.1 hc, f56]
  · rw [if_neg hc, u245_50, show (1 : Int64) = lI 1 from rfl, lI_sub, t1.2 hc, f56]
/-- the end -/
theorem e245 {r q K : Nat} {x3 : Int32} {y1 y6 a b y12 : Int64} {w16 w18 w20 : Value} (hq : q ≤ 1000) (hK : K < 2) : jm_w S 1 245 17 [.ref r, .long y1, .null, .int x3, .int (nI q), .int (nI K), .long y6, .null, .long a, .null, .long b, .null, .long y12, .null, .long (lI ((q + 1 : Nat) : Int)), .null, w16, .null, w18, .null, w20, .null] [] H Q = Q (some (.long (if K = 1 then b else a))) H := by
  have c1 : 0 < lg_cmp (lI ((q + 1 : Nat) : Int)) (Int32.toInt64 (nI q)) := by
    rw [nI_lI (by omega), lg_cmp_gt, lI_lt ⟨by omega, by omega⟩ ⟨by omega, by omega⟩]
    omega
  rw [u245_17, if_pos c1, u245_136]
  by_cases h : K = 1
  · rw [if_pos (fun g => by have := (nI_eqI (b := 0) (by omega) (by decide)).mp g; omega), if_pos h, u245_146, u245_148]
  · rw [if_neg (fun g => g ((nI_eqI (b := 0) (by omega) (by decide)).mpr (by omega))), if_neg h, u245_141, u245_148]
theorem s245 {r h q K : Nat} (hh : h ≤ 44) (hz1 : -35184372088832 ≤ z) (hz2 : z ≤ 35184372088832) (hq : q ≤ 1000) (hK : K < 2) : ∀ (f i b : Nat) (w16 w18 w20 : Value), i + f = q + 1 → 1 ≤ b → b ≤ q → 1 ≤ i → jm_w S 1 245 17 [.ref r, .long (lI z), .null, .int (nI h), .int (nI q), .int (nI K), .long (lI ((2 ^ h : Nat) : Int)), .null, .long (lI (jn_p z ((2 ^ h : Nat) : Int) b)), .null, .long (lI b), .null, .long (lI (jn_m z ((2 ^ h : Nat) : Int) b)), .null, .long (lI i), .null, w16, .null, w18, .null, w20, .null] [] H Q = Q (some (.long (if K = 1 then lI (jn_b z ((2 ^ h : Nat) : Int) f i b : Nat) else lI (jn_p z ((2 ^ h : Nat) : Int) (jn_b z ((2 ^ h : Nat) : Int) f i b : Nat))))) H
  | 0, i, b, w16, w18, w20, hf, hb0, hb, hi => by
    have : i = q + 1 := by omega
    subst this
    rw [e245 hq hK]
    rfl
  | f + 1, i, b, w16, w18, w20, hf, hb0, hb, hi => by
    obtain ⟨u1, u2⟩ := jn_u hh
    rw [t245 hh hz1 hz2 (show i ≤ q by omega) hq, u245_91]
    have m1 := jn_m_b (z := z) (d := (b : Int)) u1
    have m2 := jn_m_b (z := z) (d := (i : Int)) u1
    have n1 := jn_zd (d := (b : Int)) (show -35184372088832 ≤ jn_m z ((2 ^ h : Nat) : Int) i by omega) (by omega) (by omega) (by omega)
    have n2 := jn_zd (d := (i : Int)) (show -35184372088832 ≤ jn_m z ((2 ^ h : Nat) : Int) b by omega) (by omega) (by omega) (by omega)
    have c0 : ¬ (lg_cmp (lI b) (0 : Int64) ≤ 0) := by
      rw [lg_cmp_le, lI_0', lI_le ⟨by omega, by omega⟩ (by decide)]
      omega
    rw [if_neg c0, u245_98, lI_mul, lI_mul]
    have cc : (lg_cmp (lI (jn_m z ((2 ^ h : Nat) : Int) i * (b : Int))) (lI (jn_m z ((2 ^ h : Nat) : Int) b * (i : Int))) < 0) = (jn_m z ((2 ^ h : Nat) : Int) i * (b : Int) < jn_m z ((2 ^ h : Nat) : Int) b * (i : Int)) := by
      rw [lg_cmp_lt]
      exact propext (lI_lt ⟨by omega, by omega⟩ ⟨by omega, by omega⟩)
    rw [ite_eqP cc, jn_b]
    have ei : lI (i : Int) + (1 : Int64) = lI ((i + 1 : Nat) : Int) := lI_add i 1
    by_cases hc : jn_m z ((2 ^ h : Nat) : Int) i * (b : Int) < jn_m z ((2 ^ h : Nat) : Int) b * (i : Int)
    · rw [if_pos hc, if_pos hc, u245_115, u245_127, ei]
      exact s245 hh hz1 hz2 hq hK f (i + 1) i _ _ _ (by omega) hi (by omega) (by omega)
    · rw [if_neg hc, if_neg hc, u245_112, u245_127, ei]
      exact s245 hh hz1 hz2 hq hK f (i + 1) b _ _ _ (by omega) hb0 hb (by omega)
theorem c245 {r h q K : Nat} (hh : h ≤ 44) (hz1 : -35184372088832 ≤ z) (hz2 : z ≤ 35184372088832) (hq : q ≤ 1000) (hq0 : 1 ≤ q) (hK : K < 2) : jm_c S 245 [.ref r, .long (lI z), .int (nI h), .int (nI q), .int (nI K)] H Q = Q (some (.long (lI (jn_an z ((2 ^ h : Nat) : Int) q K)))) H := by
  rw [en245, u245_0, lN_p2 (by omega), lI_n]
  have h1 : (1 : Int64) = lI ((1 : Nat) : Int) := rfl
  rw [h1, t245 hh hz1 hz2 hq0 hq, u245_91, if_pos (by rw [lg_cmp_le]; decide), u245_115, u245_127, show lI ((1 : Nat) : Int) + (1 : Int64) = lI ((2 : Nat) : Int) from lI_add 1 1, s245 hh hz1 hz2 hq hK (q - 1) 2 1 _ _ _ (by omega) (by decide) hq0 (by decide)]
  unfold jn_an
  by_cases h : K = 1
  · rw [if_pos h, if_pos h]
  · rw [if_neg h, if_neg h]
end NEARM
section NEARC
variable {N W A q K : Nat}
/-- of a row: its value over, and below the line -/
def jn_of (x : Option (Int × Nat × Int)) (q K : Nat) : Int := match x with
  | none => 0
  | some y => jn_an (jn_z y.1 y.2.1 y.2.2) ((2 ^ (-y.2.2).toNat : Nat) : Int) q K
/-- what is a row's, without nil: its three -/
theorem jn_three (h1 : 3 ≤ N) (h2 : N ≤ 12) (hw : W ≤ 2) (hA : A < 2 ^ N) (hn : A ≠ 2 ^ (N - 1)) : ∃ s m p, jq_val N W A = some (s, m, p) ∧ (-1 ≤ s ∧ s ≤ 1) ∧ -44 ≤ p ∧ p ≤ 44 ∧ -35184372088832 ≤ jn_z s m p ∧ jn_z s m p ≤ 35184372088832 := by
  have hb := jq_val_b h1 h2 hw hA
  unfold jq_val at *
  by_cases h0 : A = 0
  · rw [if_pos h0]
    exact ⟨0, 0, 0, rfl, by decide, by decide, by decide, by decide, by decide⟩
  · rw [if_neg h0, if_neg hn]
    obtain ⟨b1, b2⟩ := jf_bare_pos (show 1 ≤ N by omega) hA h0 hn
    obtain ⟨o1, o2, o3, o4, o5, o6⟩ := jq_om_pos h1 h2 hw b1 b2
    have hle : 2 ^ (N - 1) ≤ 2 ^ 11 := p2_le (by omega)
    generalize jq_om N W (jf_bare N A) = m at *
    generalize jq_op N W (jf_bare N A) = p at *
    have k1 : m * 2 ^ p.toNat ≤ 35184372088832 := by
      have hm : m < 2 ^ (Nat.log2 m + 1) := Nat.lt_log2_self
      by_cases hp : 0 ≤ p
      · have := Nat.mul_le_mul_right (2 ^ p.toNat) (Nat.le_of_lt hm)
        rw [← Nat.pow_add] at this
        have h45 : 2 ^ (Nat.log2 m + 1 + p.toNat) ≤ 2 ^ 45 := p2_le (by omega)
        omega
      · rw [show p.toNat = 0 by omega]
        omega
    refine ⟨_, _, _, rfl, ?_, o3, by omega, ?_⟩
    · split <;> omega
    · unfold jn_z
      generalize m * 2 ^ p.toNat = x at k1 ⊢
      split <;> omega
theorem C123 (h1 : 3 ≤ N) (h2 : N ≤ 12) (hw : W ≤ 2) (hA : A < 2 ^ N) (hn : A ≠ 2 ^ (N - 1)) (hq0 : 1 ≤ q) (hq : q ≤ 1000) (hK : K < 2) : jq_C 123 [.int (nI N), .int (nI W), .int (nI A), .int (nI q), .int (nI K)] (.long (lI (jn_of (jq_val N W A) q K))) := fun H st => by
  have hp := p2_12 h2
  obtain ⟨s, m, p, e, hs, p1, p2, z1, z2⟩ := jn_three (W := W) h1 h2 hw hA hn
  obtain ⟨H1, i1, _, f1, q1⟩ := c68 (S := none) (st_t27 st) (st_r27_0 st) (by decide) (by decide) (st_t28 st) h1 h2 hw hA
  have st1 := jf_fr_st f1 st
  rw [e] at i1
  have t1 := st_t27 st1
  refine ⟨H1, jf_fr_mono f1 (fun q h => by rcases h with rfl | rfl <;> exact Or.inr (Or.inl (by decide))), fun Q => ?_⟩
  have r := st_r2_5 st
  have r1 := st_r2_5 st1
  have k1 : ¬ nI q < (1 : Int32) := fun g => by have := (nI_ltI (b := 1) (by omega) (by decide)).mp g; omega
  have k2 : ¬ (1000 : Int32) < nI q := fun g => by have := (nI_ltI (a := 1000) (by decide) (by omega)).mp g; omega
  have k3 : ¬ nI K < 0 := nI_geK (by omega)
  have k4 : nI K ≤ (1 : Int32) := (nI_leI (b := 1) (by omega) (by decide)).mpr (by omega)
  have zK : (¬ nI K = (1 : Int32)) = ¬ K = 1 := congrArg Not (propext (nI_eqI (b := 1) (by omega) (by decide)))
  have hb := jn_b_le (z := jn_z s m p) (u := ((2 ^ (-p).toNat : Nat) : Int)) (q := q) (q - 1) 2 1 (by omega) hq0
  rw [en123, u123_0, c99, if_pos (jr_row_nI h1 h2 hw hA)]
  simp only [Option.toList_some, List.append_nil]
  rw [u123_6, if_neg i1_0, u123_9, c69 (by omega) (by omega) (by omega)]
  simp only [Option.toList_some, List.append_nil]
  rw [if_neg hn, u123_14, if_neg (fun g => g rfl), u123_17, if_neg k1, u123_23, if_neg k2, u123_31, if_neg k3, u123_36, if_pos k4, u123_46 (st_t2 st) (by rw [r]; decide) (by rw [r]; exact st_t27 st), r, q1]
  simp only [Option.toList_none, List.nil_append]
  rw [u123_56 (st_t2 st1) (by rw [r1]; decide) (by rw [r1]; exact t1), r1, c124 t1 i1 hs p1 p2 z1 z2 hq hq0]
  simp only [Option.toList_some, List.append_nil]
  rw [u123_65, ite_eqP zK, e]
  unfold jn_of jn_an
  dsimp only
  by_cases h : K = 1
  · rw [if_neg (fun g => g h), if_pos h, u123_73, u123_88, nI_lI (by omega)]
  · rw [if_pos h, if_neg h, u123_79 (st_t2 st1) (by rw [r1]; decide) (by rw [r1]; exact t1), r1, c127 t1 i1 hs p1 p2 z1 z2 (by omega)]
    simp only [Option.toList_some, List.append_nil]
    rw [u123_88]
theorem M244 (h1 : 3 ≤ N) (h2 : N ≤ 12) (hw : W ≤ 2) (hA : A < 2 ^ N) (hn : A ≠ 2 ^ (N - 1)) (hq0 : 1 ≤ q) (hq : q ≤ 1000) (hK : K < 2) : jq_M 244 [.int (nI N), .int (nI W), .int (nI A), .int (nI q), .int (nI K)] (.long (lI (jn_of (jq_val N W A) q K))) := fun H st => by
  have hp := p2_12 h2
  have kq : (nI q).toInt = q := nI_toInt (by omega)
  have kK : (nI K).toInt = K := nI_toInt (by omega)
  have pre : ∀ Q, jm_c none 244 [.ref 180, .int (nI N), .int (nI W), .int (nI A), .int (nI q), .int (nI K)] H Q = jm_w none 4 244 43 [.ref 180, .int (nI N), .int (nI W), .int (nI A), .int (nI q), .int (nI K), .null, .null] [] H Q := fun Q => by
    rw [en244, u244_0, c220, if_pos (jr_row_nI h1 h2 hw hA)]
    simp only [Option.toList_some, List.append_nil]
    rw [u244_6, if_neg i1_0, u244_9, c204 (by omega) (by omega) (by omega), if_neg hn]
    simp only [Option.toList_some, List.append_nil]
    rw [u244_14, if_neg (fun g => g rfl), u244_17, c176, kq, show (1 : Int32).toInt = 1 from by decide, show (1000 : Int32).toInt = 1000 from by decide, if_pos (by omega)]
    simp only [Option.toList_some, List.append_nil]
    rw [u244_26, if_neg i1_0, u244_29, c176, kK, show (1 : Int32).toInt = 1 from by decide, i32_0, if_pos (by omega)]
    simp only [Option.toList_some, List.append_nil]
    rw [u244_36, if_pos i1_0]
  by_cases h0 : A = 0
  · refine ⟨H, jq_fn_refl H, fun Q => ?_⟩
    have u1 : (0 : Int) < ((2 ^ (-(0 : Int)).toNat : Nat) : Int) := by decide
    have e : jn_of (jq_val N W A) q K = K := by
      unfold jq_val
      rw [if_pos h0]
      unfold jn_of jn_an
      dsimp only
      rw [jn_b_0 u1 (by decide)]
      by_cases h : K = 1
      · rw [if_pos h, h]
      · rw [if_neg h, show K = 0 by omega]
        decide
    rw [pre, u244_43, if_neg (fun g => g ((nI_eqI (b := 0) (by omega) (by decide)).mpr h0)), u244_47, e, nI_lI (by omega)]
  · have fo := jq_fm_open (H := H) N W (jf_bare N A)
    have stG := jq_fm_st fo st
    refine ⟨jf_open 180 N W (jf_bare N A) H, jq_fn_of fo, fun Q => ?_⟩
    obtain ⟨b1, b2⟩ := jf_bare_pos (show 1 ≤ N by omega) hA h0 hn
    obtain ⟨_, hm, hpw, hsm⟩ := jq_row (w := W) h1 (by omega) hw b1 b2
    obtain ⟨s, m, p, e, hs, p1, p2, z1, z2⟩ := jn_three (W := W) h1 h2 hw hA hn
    have hd := jf_tz_dvd 12 (jf_mant N W (jf_bare N A))
    have hl := jf_tz_le 12 (jf_mant N W (jf_bare N A))
    have hle : 2 ^ (N - 1) ≤ 2 ^ 11 := p2_le (by omega)
    have es : s = jf_sgn N A ∧ m * 2 ^ jf_tz 12 (jf_mant N W (jf_bare N A)) = jf_mant N W (jf_bare N A) ∧ p = jf_pow N W (jf_bare N A) + jf_tz 12 (jf_mant N W (jf_bare N A)) := by
      unfold jq_val at e
      rw [if_neg h0, if_neg hn] at e
      have e1 := Option.some.inj e
      have a1 := congrArg (fun y => y.1) e1
      have a2 := congrArg (fun y => y.2.1) e1
      have a3 := congrArg (fun y => y.2.2) e1
      dsimp only at a1 a2 a3
      refine ⟨?_, by rw [← a2]; exact hd, a3.symm⟩
      unfold jf_sgn
      rw [← a1, if_neg (show ¬ (A = 0 ∨ A = 2 ^ (N - 1)) from fun g => g.elim h0 hn)]
      by_cases hc : A < 2 ^ (N - 1)
      · rw [if_pos hc, if_neg (by omega)]
      · rw [if_neg hc, if_pos (by omega)]
    obtain ⟨es, em, ep⟩ := es
    rw [pre, u244_43, if_pos (show ¬ nI A = 0 from fun g => h0 ((nI_eqI (b := 0) (by omega) (by decide)).mp g)), u244_51 (st_t180 st), c193 (st_t180 st) h1 (by omega) hw hA]
    simp only [Option.toList_none, List.nil_append]
    rw [u244_58, c206 (by omega) h2 hA]
    simp only [Option.toList_some, List.append_nil]
    rw [u244_63 (st_t180 stG), jf_open_m, jf_open_p, ← es, e]
    unfold jn_of
    dsimp only
    have jp := jf_open_p (H := H) N W (jf_bare N A)
    generalize jf_mant N W (jf_bare N A) = M at *
    generalize jf_pow N W (jf_bare N A) = P at *
    generalize jf_tz 12 M = t at *
    rw [nI_lI (by omega), jI_l ⟨by omega, by omega⟩, lI_mul]
    have zP : (0 ≤ jI P) = (0 ≤ P) := propext (jI_le (a := 0) (by decide) ⟨by omega, by omega⟩)
    rw [ite_eqP zP]
    by_cases hP : 0 ≤ P
    · have hpp : (-p).toNat = 0 := by omega
      have u1 : (0 : Int) < ((2 ^ 0 : Nat) : Int) := by decide
      have em1 : jn_m (jn_z s m p) ((2 ^ 0 : Nat) : Int) ((1 : Nat) : Int) = 0 := by
        unfold jn_m
        rw [show ((2 ^ 0 : Nat) : Int) = 1 from rfl, Int.emod_one]
        decide
      have zk : (¬ nI K = 0) = ¬ K = 0 := congrArg Not (propext (nI_eqI (b := 0) (by omega) (by decide)))
      unfold jn_an
      rw [if_pos hP, u244_97, ite_eqP zk, hpp, jn_b_0 u1 em1]
      by_cases h : K = 1
      · rw [if_pos (by omega), if_pos h, u244_112, u244_113]
        rfl
      · rw [if_neg (by omega), if_neg h, u244_102 (st_t180 stG), jp, show jI P = nI P.toNat by rw [jI_n, Int.toNat_of_nonneg hP], lI_shl _ (by omega), u244_113]
        have e1 : jn_p (jn_z s m p) ((2 ^ 0 : Nat) : Int) ((1 : Nat) : Int) = s * (M : Int) * ((2 ^ P.toNat : Nat) : Int) := by
          unfold jn_p
          rw [show ((2 ^ 0 : Nat) : Int) = 1 from rfl, Int.emod_one, if_pos (by decide), Int.ediv_one, Int.mul_one]
          unfold jn_z
          rw [show p.toNat = t + P.toNat by omega, Nat.pow_add, ← Nat.mul_assoc, em, Int.natCast_mul, Int.mul_assoc]
        rw [e1]
    · have hh : (-P).toNat ≤ 44 := by omega
      have k1 : (0 : Int) < ((2 ^ ((-P).toNat - (-p).toNat) : Nat) : Int) := by
        have := Nat.two_pow_pos ((-P).toNat - (-p).toNat)
        omega
      have ez : s * (M : Int) = ((2 ^ ((-P).toNat - (-p).toNat) : Nat) : Int) * jn_z s m p := by
        have : M = m * 2 ^ p.toNat * 2 ^ ((-P).toNat - (-p).toNat) := by
          rw [Nat.mul_assoc, ← Nat.pow_add, show p.toNat + ((-P).toNat - (-p).toNat) = t by omega, em]
        unfold jn_z
        rw [this, Int.natCast_mul (m * 2 ^ p.toNat), ← Int.mul_assoc, Int.mul_comm]
      have eu : ((2 ^ (-P).toNat : Nat) : Int) = ((2 ^ ((-P).toNat - (-p).toNat) : Nat) : Int) * ((2 ^ (-p).toNat : Nat) : Int) := by
        rw [← Int.natCast_mul, ← Nat.pow_add, Nat.sub_add_cancel (by omega)]
      have bz : -35184372088832 ≤ s * (M : Int) ∧ s * (M : Int) ≤ 35184372088832 := by
        have g1 := Int.mul_le_mul_of_nonneg_right hs.1 (show (0 : Int) ≤ (M : Int) by omega)
        have g2 := Int.mul_le_mul_of_nonneg_right hs.2 (show (0 : Int) ≤ (M : Int) by omega)
        omega
      rw [if_neg hP, u244_79 (st_t180 stG), jp, jI_neg, show jI (-P) = nI (-P).toNat by rw [jI_n, Int.toNat_of_nonneg (by omega)], c245 hh bz.1 bz.2 hq hq0 hK]
      simp only [Option.toList_some, List.append_nil]
      rw [u244_94, u244_113, ez, eu]
      unfold jn_an
      rw [jn_b_sc k1, (jn_sc _ k1).1]
end NEARC
