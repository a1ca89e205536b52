set_option maxRecDepth 20000
/-! what the reference only says: bit, stored, let, count -/
section QUER
variable {S : Option (Nat × (Nat → Int32))} {c : Nat} {H0 : jm_H}
/-- a contract without a script stands with one -/
theorem jm_c_all {mi : Nat} {as : List Value} {H H1 : jm_H} {v : Option Value} (h : ∀ Q, jm_c none mi as H Q = Q v H1) (Q : Option Value → jm_H → Prop) : jm_c S mi as H Q = Q v H1 := by
  have h0 : jm_c none mi as H (fun r G => r = v ∧ G = H1) := by
    rw [h]
    exact ⟨rfl, rfl⟩
  obtain ⟨n, r, G, e1, rfl, rfl⟩ := h0
  have e2 := jm_mono (S' := S) (Or.inl rfl) n n _ _ _ _ _ _ _ (Nat.le_refl _) e1
  refine propext ⟨fun ⟨n', r', G', e3, q⟩ => ?_, fun q => ⟨n, r, G, e2, q⟩⟩
  have a1 := jm_mono (S' := S) (Or.inr rfl) n (n + n') _ _ _ _ _ _ _ (Nat.le_add_right _ _) e2
  have a2 := jm_mono (S' := S) (Or.inr rfl) n' (n + n') _ _ _ _ _ _ _ (Nat.le_add_left _ _) e3
  rw [a1] at a2
  injection a2 with a2
  injection a2 with a3 a4
  subst a3 a4
  exact q
theorem nI_dec (m : Nat) : nI (m + 1) + (-1 : Int32) = nI m := by rw [show (-1 : Int32) = jI (-1) from by decide, jI_n, jI_n, jI_add, show ((m + 1 : Nat) : Int) + -1 = (m : Int) by omega]
theorem d16 : ∀ z, z < 256 → nI z / 16 = nI (z / 16) ∧ nI z - nI z / 16 * 16 = nI (z % 16) := by decide +kernel
theorem nI_l1 : ∀ z, z < 9 → (nI z - 1).toInt = (z : Int) - 1 := by decide +kernel
theorem jP_fm {G G' : jm_H} (h : jP c G) (f : jq_fm G G') : jP c G' := by
  obtain ⟨l, h0, N, hN, eN, hr⟩ := h
  exact ⟨l, jP0_fm h0 f, N, hN, by rw [(f.1.2.2.2.2 188 (by decide)).1]; exact eN, rws_fm f hr⟩
theorem jPH_fm {G G' : jm_H} (h : jPH c H0 G) (f : jq_fm G G') : jPH c H0 G' := ⟨jP_fm h.1 f, jH_fm h.2 f⟩
theorem z246 {x1 : Int32} {G : jm_H} (h : jPH c H0 G) : jz (jPH c H0) jz_I (fun Q => jm_c S 246 [.ref 180, .int x1] G Q) := by
  have st := jP_st h.1
  have r17 := st_r180_17 st
  refine jz_eq (fun _ => en246.trans (u246_0.trans (c176 _ _ _))) ?_
  by_cases g : (Int32.toInt (-100 : Int32) ≤ x1.toInt ∧ x1.toInt ≤ Int32.toInt (100 : Int32))
  · rw [if_pos g]
    have g1 : (-100 : Int) ≤ x1.toInt := g.1
    have g2 : x1.toInt ≤ (100 : Int) := g.2
    refine jz_eq (fun _ => u246_8) (jz_if (fun _ => ?_) (fun g => absurd i1_0 g))
    refine jz_eq (fun _ => u246_13 (st_t180 st) (by rw [r17]; decide) (by rw [r17, st_l188 st]; decide) (by rw [r17]; decide) (by rw [r17]; exact st_t188 st)) (jz_if (fun _ => ?_) (fun _ => ?_))
    · obtain ⟨m, hm, em⟩ : ∃ m, m < 256 ∧ x1 + 112 = nI m := ⟨(x1.toInt + 112).toNat, by omega, by
        rw [jI_n, Int.toNat_of_nonneg (by omega), show (112 : Int32) = jI 112 from by decide]
        conv => lhs; rw [jI_of x1]
        rw [jI_add]⟩
      have ei : (4 : Int32) + (x1 + 112) / 16 = nI (4 + m / 16) := by rw [em, (d16 m hm).1]; exact nI_addN 4 _
      exact jz_eq (fun _ => u246_26 (st_t180 st) (by rw [r17]; decide) (by rw [r17, st_l188 st, ei]; exact nI_inK (by omega) (by decide)) (by rw [r17]; decide) (by rw [r17]; exact st_t188 st)) (jz_end h ⟨_, rfl⟩)
    · exact jz_eq (fun _ => u246_23) (jz_end h ⟨_, rfl⟩)
  · rw [if_neg g]
    exact jz_eq (fun _ => u246_8) (jz_if (fun g => absurd rfl g) (fun _ => jz_eq (fun _ => u246_11) (jz_end h ⟨_, rfl⟩)))
theorem bnk_lt {D : Nat} (hc : c ≤ 600) (h : D ≤ c * 2 ^ 230) : D < 65536 ^ 16 := by
  have hcc : c * 2 ^ 230 ≤ 600 * 2 ^ 230 := Nat.mul_le_mul_right _ hc
  exact Nat.lt_of_le_of_lt (Nat.le_trans h hcc) (by decide)
theorem z247 {x1 x2 : Int32} {G : jm_H} (hc : c ≤ 600) (h : jPH c H0 G) : jz (jPH c H0) jz_I (fun Q => jm_c S 247 [.ref 180, .int x1, .int x2] G Q) := by
  have st := jP_st h.1
  have r17 := st_r180_17 st
  refine jz_eq (fun _ => en247.trans (u247_0.trans (c217 _ _))) ?_
  by_cases hz : jr_sz x1 x2
  · rw [if_pos hz]
    obtain ⟨M, V, m1, m2, m3, rfl, rfl⟩ := jr_sz_of hz
    refine jz_eq (fun _ => u247_5) (jz_if (fun _ => ?_) (fun g => absurd i1_0 g))
    refine jz_eq (fun _ => u247_10 (st_t180 st) (by rw [r17]; decide) (by rw [r17, st_l188 st]; decide) (by rw [r17]; decide) (by rw [r17]; exact st_t188 st)) (jz_if (fun _ => ?_) (fun _ => ?_))
    · obtain ⟨l, h0, N, hN, eN, hr⟩ := id h.1
      obtain ⟨N', W, z, b1, b2, b3, b4, b5, b6, b7, b8⟩ := h0.2.2.1
      obtain ⟨K, fK, zK, qK⟩ := t221 (S := S) (z := z) st b6 (fun k hk => by rw [show 4 + k = 0 + 4 + k by omega]; exact b7 k hk) (bnk_lt hc b8)
      have hK := jPH_fm h fK
      refine jz_eq (fun _ => u247_25 (st_t180 st)) (jz_eq (fun _ => qK _) ?_)
      refine jz_eq (fun _ => u247_29 (st_t180 (jP_st hK.1))) (jz_call (t208 (S := S) (jP_st hK.1) m1 m2 m3 zK) (fun v G1 f1 hv => ?_))
      obtain ⟨A, hA, rfl⟩ := hv
      exact jz_eq (fun _ => u247_35) (jz_end (jPH_fm hK f1) ⟨_, rfl⟩)
    · refine jz_eq (fun _ => u247_20.trans (c191 (by omega) (by omega))) ?_
      exact jz_eq (fun _ => u247_24) (jz_end h ⟨_, rfl⟩)
  · rw [if_neg hz]
    exact jz_eq (fun _ => u247_5) (jz_if (fun g => absurd rfl g) (fun _ => jz_eq (fun _ => u247_8) (jz_end h ⟨_, rfl⟩)))
theorem z249 {x1 x2 : Int32} {G : jm_H} (h : jPH c H0 G) : jz (jPH c H0) jz_I (fun Q => jm_c S 249 [.ref 180, .int x1, .int x2] G Q) := by
  have st := jP_st h.1
  have r17 := st_r180_17 st
  have r24 := st_r180_24 st
  obtain ⟨l, h0, N', hN', eN', hr⟩ := id h.1
  have h23 : jz (jPH c H0) jz_I (fun Q => jm_w S 5 249 23 [.ref 180, .int x1, .int x2, .null, .null] [] G Q) := jz_eq (fun _ => u249_23) (jz_end h ⟨_, rfl⟩)
  have h121 : ∀ {x2 x3 x4 : Int32} {p0 : Int32} {G : jm_H}, jPH c H0 G → jz (jPH c H0) jz_I (fun Q => jm_w S 5 249 121 [.ref 180, .int x1, .int x2, .int x3, .int x4] [.int p0] G Q) := fun h => jz_eq (fun _ => u249_121) (jz_end h ⟨_, rfl⟩)
  have hl := h0.2.2.2.2.2.1
  have e25 : jm_I G 180 25 = nI l := h0.2.2.2.2.2.2.1
  obtain ⟨N, W, z, b1, b2, b3, b4, b5, b6, b7, b8⟩ := h0.2.2.1
  obtain rfl : N' = N := nI_injK (by omega) (by omega) (eN'.symm.trans b4)
  have b5' : jm_I G 188 1 = nI W := b5
  have c0 : Int32.toNatClampNeg 0 = 0 := by decide
  have c1 : Int32.toNatClampNeg 1 = 1 := by decide
  have p12 := p2_12 b2
  refine jz_eq (fun _ => en249.trans (u249_0 (st_t180 st))) ?_
  refine jz_eq (fun _ => c176 _ _ _) ?_
  rw [e25, nI_l1 l (by omega)]
  by_cases g : Int32.toInt (0 : Int32) ≤ x1.toInt ∧ x1.toInt ≤ (l : Int) - 1
  · rw [if_pos g]
    have g1 : (0 : Int) ≤ x1.toInt := g.1
    obtain ⟨m, hm, rfl⟩ := ji_nn (k := l) (x := x1) g1 (by omega)
    refine jz_eq (fun _ => u249_11) (jz_if (fun g => absurd g i1_0) (fun _ => ?_))
    refine jz_eq (fun _ => u249_14.trans (c176 _ _ _)) (jz_eq (fun _ => u249_20) (jz_if (fun _ => ?_) (fun _ => h23)))
    obtain ⟨A, hA, eA⟩ := hr m hm
    refine jz_eq (fun _ => u249_27 (st_t180 st) (by rw [r17]; decide) (by rw [r17, st_l188 st]; decide) (by rw [r17]; decide) (by rw [r17]; exact st_t188 st) (by rw [r24]; decide) (by rw [r24, st_l193 st]; exact nI_inK (by omega) (by decide)) (by rw [r24]; decide) (by rw [r24]; exact st_t193 st)) ?_
    rw [r17, r24, c0, eN', nI_cl (by omega), eA]
    refine jz_if (fun _ => ?_) (fun _ => jz_eq (fun _ => u249_46) (jz_end h ⟨_, rfl⟩))
    refine jz_eq (fun _ => u249_49.trans (c204 (by omega) (by omega) (by omega))) ?_
    by_cases hn : A = 2 ^ (N' - 1)
    · rw [if_pos hn]
      exact jz_eq (fun _ => u249_55) (jz_if (fun g => absurd g i1_0) (fun _ => jz_eq (fun _ => u249_58) (jz_end h ⟨_, rfl⟩)))
    · rw [if_neg hn]
      refine jz_eq (fun _ => u249_55) (jz_if (fun _ => ?_) (fun g => absurd rfl g))
      refine jz_eq (fun _ => u249_61) (jz_if (fun _ => ?_) (fun _ => ?_))
      · refine jz_eq (fun _ => u249_80) ?_
        by_cases hA0 : A = 0
        · subst hA0
          exact jz_if (fun g => absurd rfl g) (fun _ => jz_eq (fun _ => u249_85) (jz_end h ⟨_, rfl⟩))
        · refine jz_if (fun _ => ?_) (fun g => absurd ((nI_eqI (b := 0) (by omega) (by decide)).mp (Classical.not_not.mp g)) hA0)
          obtain ⟨q1, q2⟩ := jf_bare_pos (show 1 ≤ N' by omega) hA hA0 hn
          obtain ⟨m1, m2, _, _⟩ := jq_row_b b1 (by omega) b3 q1 q2
          refine jz_eq (fun _ => u249_88 (st_t180 st) (by rw [r17]; decide) (by rw [r17, st_l188 st]; decide) (by rw [r17]; decide) (by rw [r17]; exact st_t188 st)) ?_
          rw [r17, c1, b5']
          refine jz_eq (fun _ => c193 (st_t180 st) b1 (by omega) b3 hA) ?_
          have fo := jq_fm_open (H := G) N' W (jf_bare N' A)
          have t := st_t180 (jq_fm_st fo st)
          have ho := jPH_fm h fo
          refine jz_eq (fun _ => u249_101 t) ?_
          refine jz_eq (fun _ => en235.trans (s235 13 _ _ _ t m1 (show jf_mant N' W (jf_bare N' A) < 2 ^ 13 by omega) (by decide) (jf_open_m _ _ _) (jf_open_p _ _ _))) ?_
          have f2 := jq_fm_trans (jq_fm_I (H := jf_open 180 N' W (jf_bare N' A) G) (k := 48) (v := nI (jf_mant N' W (jf_bare N' A) / 2 ^ jf_tz 13 (jf_mant N' W (jf_bare N' A)))) (by decide)) (jq_fm_I (k := 49) (v := jI (jf_pow N' W (jf_bare N' A) + jf_tz 13 (jf_mant N' W (jf_bare N' A)))) (by decide))
          have h2 := jPH_fm ho f2
          have t2 := st_t180 (jP_st h2.1)
          exact jz_eq (fun _ => u249_105) (jz_if (fun _ => jz_eq (fun _ => u249_117 t2) (h121 h2)) (fun _ => jz_eq (fun _ => u249_110 t2) (h121 h2)))
      · obtain ⟨K, fK, qK⟩ := c234 st b1 b2 b3 hA hn
        refine jz_eq (fun _ => u249_66 (st_t180 st) (by rw [r17]; decide) (by rw [r17, st_l188 st]; decide) (by rw [r17]; decide) (by rw [r17]; exact st_t188 st)) ?_
        rw [r17, c1, b5']
        exact jz_eq (fun _ => jm_c_all qK _) (jz_eq (fun _ => u249_79) (jz_end (jPH_fm h fK) ⟨_, rfl⟩))
  · rw [if_neg g]
    exact jz_eq (fun _ => u249_11) (jz_if (fun _ => h23) (fun g => absurd rfl g))
end QUER
