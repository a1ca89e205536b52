set_option maxRecDepth 20000
/-! the reference's store comes to an end -/
section STORE9
variable {S : Option (Nat × (Nat → Int32))} {c : Nat} {H0 : jm_H}
theorem nI_injK {a b : Nat} (ha : a < 2147483648) (hb : b < 2147483648) (h : nI a = nI b) : a = b := by
  have := congrArg Int32.toInt h
  rw [nI_toInt ha, nI_toInt hb] at this
  omega
theorem l221 {G0 : jm_H} (st0 : jm_st G0) : ∀ (d i : Nat) {G : jm_H}, i + d = 16 → cpy G0 205 0 188 4 i G → ∃ H1, cpy G0 205 0 188 4 16 H1 ∧ ∀ Q, jm_w S 1 221 12 [.ref 180, .int (nI i)] [] G Q = Q none H1
  | 0, i, G, hd, hG => by
    obtain rfl : i = 16 := by omega
    refine ⟨G, hG, fun Q => ?_⟩
    rw [u221_12, if_pos (by decide), u221_38]
  | d + 1, i, G, hd, hG => by
    have st := jf_fr_st hG.1 st0
    have r2 := st_r180_17 st
    have r5 := st_r180_50 st
    have hs := cpy_s (by decide) hG
    rw [Nat.zero_add] at hs
    obtain ⟨H1, h1, q1⟩ := l221 st0 d (i + 1) (by omega) hs
    refine ⟨H1, h1, fun Q => ?_⟩
    have ez : (4 : Int32) + nI i = nI (4 + i) := nI_addN 4 i
    rw [u221_12, if_neg (show ¬ (16 : Int32) ≤ nI i from fun g => by have := (nI_leI (a := 16) (by decide) (by omega)).mp g; omega), u221_18 (st_t180 st) (by rw [r5]; decide) (by rw [r2]; decide) (by rw [r2, st_l188 st, ez]; exact nI_inK (by omega) (by decide)) (by rw [r2]; decide) (by rw [r2]; exact st_t188 st) (by rw [r5, st_l205 st]; exact nI_inK (by omega) (by decide)) (by rw [r5]; exact st_t205 st), r2, r5, ez, nI_cl (by omega), nI_cl (by omega), nI_succK]
    exact q1 Q
theorem t221 {z : Int} {G : jm_H} (st : jm_st G) (h2 : jm_I G 188 2 = jI (jq_sg z)) (hd : ∀ k, k < 16 → jm_I G 188 (4 + k) = nI (jq_d z.natAbs k)) (hz : z.natAbs < 65536 ^ 16) : ∃ H1, jq_fm G H1 ∧ jq_sm H1 z ∧ ∀ Q, jm_c S 221 [.ref 180] G Q = Q none H1 := by
  have r2 := st_r180_17 st
  have f0 : jf_fr (fun q => q = 180) G (jm_pI G 180 52 (jm_I G 188 2)) := jf_fr_pI rfl
  obtain ⟨H1, f1, q1⟩ := l221 (S := S) (jf_fr_st f0 st) 16 0 (by decide) cpy_0
  refine ⟨H1, ⟨jf_fr_trans (jf_fr_pI (Or.inl rfl)) (jf_fr_mono f1.1 (fun q h => Or.inr (Or.inl h))), fun k hk => ?_⟩, ⟨?_, hz, fun k hk' => ?_⟩, fun Q => ?_⟩
  · rw [(f1.1.2.2.2.2 180 (by decide)).1, jm_I_pI, if_neg (by omega)]
  · rw [(f1.1.2.2.2.2 180 (by decide)).1, jm_I_pI, if_pos ⟨rfl, rfl⟩, h2]
  · have := f1.2.1 k hk'
    rw [Nat.zero_add] at this
    rw [this, jm_I_pI, if_neg (by omega)]
    exact hd k hk'
  · rw [en221, u221_0 (st_t180 st) (by rw [r2]; decide) (by rw [r2, st_l188 st]; decide) (by rw [r2]; decide) (by rw [r2]; exact st_t188 st), r2, show Int32.toNatClampNeg 2 = 2 from by decide]
    exact q1 Q
variable {x1 x2 x3 x4 : Int32}
theorem l219b {G0 : jm_H} (st0 : jm_st G0) : ∀ (d i : Nat) {G : jm_H}, i + d = 16 → cpy G0 188 4 205 0 i G → ∃ H1, cpy G0 188 4 205 0 16 H1 ∧ ∀ Q, jm_w S 5 219 145 [.ref 180, .int x1, .int x2, .int x3, .int x4, .int (nI i)] [] G Q = Q (some (.int 1)) H1
  | 0, i, G, hd, hG => by
    obtain rfl : i = 16 := by omega
    refine ⟨G, hG, fun Q => ?_⟩
    rw [u219_145, if_pos (by decide), u219_174]
  | d + 1, i, G, hd, hG => by
    have st := jf_fr_st hG.1 st0
    have r2 := st_r180_17 st
    have r5 := st_r180_50 st
    have hs := cpy_s (by decide) hG
    rw [Nat.zero_add] at hs
    obtain ⟨H1, h1, q1⟩ := l219b st0 d (i + 1) (by omega) hs
    refine ⟨H1, h1, fun Q => ?_⟩
    have ez : (4 : Int32) + nI i = nI (4 + i) := nI_addN 4 i
    rw [u219_145, if_neg (show ¬ (16 : Int32) ≤ nI i from fun g => by have := (nI_leI (a := 16) (by decide) (by omega)).mp g; omega), u219_152 (st_t180 st) (by rw [r2]; decide) (by rw [r5]; decide) (by rw [r5, st_l205 st]; exact nI_inK (by omega) (by decide)) (by rw [r5]; decide) (by rw [r5]; exact st_t205 st) (by rw [r2, st_l188 st, ez]; exact nI_inK (by omega) (by decide)) (by rw [r2]; exact st_t188 st), r2, r5, ez, nI_cl (by omega), nI_cl (by omega), nI_succK]
    exact q1 Q
theorem l219a {l N : Nat} {G0 : jm_H} (h0 : jP0 c l G0) (hr : N ≤ 12 ∧ jm_I G0 188 0 = nI N ∧ rws G0 N l) (hH : jH H0 G0) : ∀ (d i : Nat) {G : jm_H}, i + d = 20 → 2 ≤ i → zro G0 2 i G → jz (jPH c H0) jz_I (fun Q => jm_w S 5 219 65 [.ref 180, .int x1, .int x2, .int x3, .int x4, .int (nI i)] [] G Q)
  | 0, i, G, hd, hi, hG => by
    obtain rfl : i = 20 := by omega
    have st := jf_fr_st hG.1 h0.1
    have r2 := st_r180_17 st
    have f0 : jf_fr (fun q => q = 188) G (jm_pI G 188 3 1) := jf_fr_pI rfl
    have st0 := jf_fr_st f0 st
    have c3 : Int32.toNatClampNeg 3 = 3 := by decide
    have r3 : jm_R (jm_pI G 188 3 1) 180 17 = 188 := r2
    have e3 : jm_I (jm_pI G 188 3 1) 188 3 = 1 := by rw [jm_I_pI, if_pos ⟨rfl, rfl⟩]
    refine jz_eq (fun _ => u219_65) (jz_if (fun _ => ?_) (fun c => absurd (by decide) c))
    refine jz_eq (fun _ => u219_86 (st_t180 st) (by rw [r2]; decide) (by rw [r2, st_l188 st]; decide) (by rw [r2]; exact st_t188 st)) ?_
    rw [r2, c3]
    refine jz_eq (fun _ => u219_93 (H := jm_pI G 188 3 1) (st_t180 st0) (by rw [r3]; decide) (by rw [r3, st_l188 st0]; decide) (by rw [r3]; decide) (by rw [r3]; exact st_t188 st0)) ?_
    rw [r3, c3, e3]
    refine jz_if (fun g => absurd rfl g) (fun _ => ?_)
    have hb : bnk (jm_pI G 188 3 1) 188 0 c := by
      obtain ⟨M, V, z, b1, b2, b3, b4, b5, b6, b7, b8⟩ := bnk_0 (hi := 0) h0.2.2.1 hG
      exact ⟨M, V, z, b1, b2, b3, by rw [jm_I_pI, if_neg (by omega)]; exact b4, by rw [jm_I_pI, if_neg (by omega)]; exact b5, by rw [jm_I_pI, if_neg (by omega)]; exact b6, fun k hk => by rw [jm_I_pI, if_neg (by omega)]; exact b7 k hk, b8⟩
    refine jz_eq (fun _ => u219_103) (jz_end ⟨⟨l, jP0_now (Nat.le_refl _) h0 (jf_fr_trans hG.1 f0) hb, N, hr.1, by rw [jm_I_pI, if_neg (by omega), hG.2, if_neg (by omega)]; exact hr.2.1, fun j hj => by rw [jm_I_pI, if_neg (by omega), (hG.1.2.2.2.2 193 (by decide)).1]; exact hr.2.2 j hj⟩, jf_fr_trans hH (jf_fr_mono (jf_fr_trans hG.1 f0) (fun r hr => by omega))⟩ ⟨_, rfl⟩)
  | d + 1, i, G, hd, hi, hG => by
    have st := jf_fr_st hG.1 h0.1
    have r2 := st_r180_17 st
    refine jz_eq (fun _ => u219_65) (jz_if (fun g => ?_) (fun _ => ?_))
    · have := (nI_leI (a := 20) (by decide) (by omega)).mp g
      omega
    refine jz_eq (fun _ => u219_72 (st_t180 st) (by rw [r2]; decide) (by rw [r2, st_l188 st]; exact nI_inK (by omega) (by decide)) (by rw [r2]; exact st_t188 st)) ?_
    rw [r2, nI_cl (by omega), nI_succK]
    exact l219a h0 hr hH d (i + 1) (by omega) (by omega) (zro_s hi hG)
theorem jP0_fm {l : Nat} {G G' : jm_H} (h : jP0 c l G) (f : jq_fm G G') : jP0 c l G' := jP0_same h (jq_fm_st f h.1) (fun r hr => (f.1.2.2.2.2 r (by unfold jq_MM; omega)).1) (fun k hk => f.2 k (by omega))
theorem jH_fm {G G' : jm_H} (h : jH H0 G) (f : jq_fm G G') : jH H0 G' := jf_fr_trans h (jf_fr_mono f.1 (fun q hq => by unfold jq_MM at hq; omega))
theorem f219 {N W A B l : Nat} {b z : Int} {w5 : Value} {K : jm_H} (hc : c ≤ 600) (h0 : jP0 c l K) (h1 : 3 ≤ N) (h2 : N ≤ 12) (hw : W ≤ 2) (eN : jm_I K 188 0 = nI N) (eW : jm_I K 188 1 = nI W) (hr : rws K N l) (hH : jH H0 K) (hz : jq_sm K z) (hzb : z.natAbs ≤ c * 2 ^ 230) (hA : A < 2 ^ N) (hn : A ≠ 2 ^ (N - 1)) (hB : B < 2 ^ N) (hnB : B ≠ 2 ^ (N - 1)) (hb : b = -1 ∨ b = 1) : jz (jPH (c + 1) H0) jz_I (fun Q => jm_w S 5 219 129 [.ref 180, .int (nI A), .int (nI B), .int x3, .int x4, w5] [.int (jI b), .int (nI B), .int (nI A), .int (nI W), .int (nI N), .ref 180] K Q) := by
  have st := h0.1
  have hcc : c * 2 ^ 230 ≤ 600 * 2 ^ 230 := Nat.mul_le_mul_right _ hc
  obtain ⟨L, zL, fL, qL⟩ := c205 (S := S) st h1 h2 hw hA hn hB hnB hz hb (Nat.lt_of_le_of_lt (Nat.le_trans hzb hcc) (by decide))
  have hL := jP0_fm h0 fL
  have stL := hL.1
  have r2 := st_r180_17 stL
  have f0 : jf_fr (fun q => q = 188) L (jm_pI L 188 2 (jm_I L 180 52)) := jf_fr_pI rfl
  obtain ⟨G2, g2, q2⟩ := l219b (S := S) (x1 := nI A) (x2 := nI B) (x3 := x3) (x4 := x4) (jf_fr_st f0 stL) 16 0 (by decide) cpy_0
  have e188 : jm_I L 188 = jm_I K 188 := (fL.1.2.2.2.2 188 (by decide)).1
  refine jz_eq (fun _ => u219_129 (st_t180 st)) ?_
  refine jz_eq (fun _ => qL _) ?_
  refine jz_eq (fun _ => u219_132 (st_t180 stL) (by rw [r2]; decide) (by rw [r2, st_l188 stL]; decide) (by rw [r2]; exact st_t188 stL)) ?_
  rw [r2, show Int32.toNatClampNeg 2 = 2 from by decide]
  refine jz_eq (fun Q => q2 Q) ?_
  have fG : jf_fr (fun q => q = 188) L G2 := jf_fr_trans f0 g2.1
  have hb' : bnk G2 188 0 (c + 1) := by
    refine ⟨N, W, z + b * jq_zp N W A B, h1, h2, hw, ?_, ?_, ?_, fun k hk => ?_, ?_⟩
    · rw [g2.2.2 0 (by omega), jm_I_pI, if_neg (by omega), e188]; exact eN
    · rw [g2.2.2 (0 + 1) (by omega), jm_I_pI, if_neg (by omega), e188]; exact eW
    · rw [g2.2.2 (0 + 2) (by omega), jm_I_pI, if_pos ⟨rfl, rfl⟩]; exact zL.1
    · have := g2.2.1 k hk
      rw [Nat.zero_add] at this
      rw [show 0 + 4 + k = 4 + k by omega, this, jm_I_pI, if_neg (by omega)]
      exact zL.2.2 k hk
    · have hzp := zp_b h1 h2 hw hA hB
      rw [Nat.succ_mul]
      generalize (2 : Nat) ^ 230 = T at *
      generalize jq_zp N W A B = y at *
      rcases hb with rfl | rfl <;> omega
  exact jz_end ⟨⟨l, jP0_now (Nat.le_succ c) hL fG hb', N, h2, by rw [g2.2.2 0 (by omega), jm_I_pI, if_neg (by omega), e188]; exact eN, fun j hj => by rw [(fG.2.2.2.2 193 (by decide)).1, (fL.1.2.2.2.2 193 (by decide)).1]; exact hr j hj⟩, jf_fr_trans (jH_fm hH fL) (jf_fr_mono fG (fun r hr => by omega))⟩ ⟨_, rfl⟩
theorem z219 {G : jm_H} (hc : c ≤ 600) (h : jPH c H0 G) : jz (jPH (c + 1) H0) jz_I (fun Q => jm_c S 219 [.ref 180, .int x1, .int x2, .int x3] G Q) := by
  have st := jP_st h.1
  have r2 := st_r180_17 st
  have hl : jPH (c + 1) H0 G := ⟨jP_mono (Nat.le_succ c) h.1, h.2⟩
  obtain ⟨l, h0, N', hN', eN', hr⟩ := h.1
  obtain ⟨N, W, z, b1, b2, b3, b4, b5, b6, b7, b8⟩ := h0.2.2.1
  obtain rfl : N' = N := nI_injK (by omega) (by omega) (eN'.symm.trans b4)
  have b5' : jm_I G 188 1 = nI W := b5
  have c0 : Int32.toNatClampNeg 0 = 0 := by decide
  have c1 : Int32.toNatClampNeg 1 = 1 := by decide
  have c3 : Int32.toNatClampNeg 3 = 3 := by decide
  have p12 : (2 : Nat) ^ N' ≤ 2 ^ 12 := Nat.pow_le_pow_right (by decide) b2
  have p12' : (2 : Nat) ^ 12 = 4096 := by decide
  have h38 : ∀ {x1 x2 w5 : Int32}, jz (jPH (c + 1) H0) jz_I (fun Q => jm_w S 5 219 38 [.ref 180, .int x1, .int x2, .int x3, .int w5, .null] [] G Q) := jz_eq (fun _ => u219_38) (jz_end hl ⟨_, rfl⟩)
  refine jz_eq (fun _ => en219.trans (u219_0 (st_t180 st) (by rw [r2]; decide) (by rw [r2, st_l188 st]; decide) (by rw [r2]; decide) (by rw [r2]; exact st_t188 st) (by rw [r2, st_l188 st]; decide))) ?_
  rw [r2, c0, c1, eN', b5']
  refine jz_eq (fun _ => c220 _ _ _) ?_
  by_cases ha : jr_row (nI N') (nI W) x1
  · rw [if_pos ha]
    obtain ⟨A, hA, rfl⟩ := jr_arg b2 ha
    refine jz_eq (fun _ => u219_20) (jz_if (fun g => absurd g i1_0) (fun _ => ?_))
    refine jz_eq (fun _ => u219_23 (st_t180 st) (by rw [r2]; decide) (by rw [r2, st_l188 st]; decide) (by rw [r2]; decide) (by rw [r2]; exact st_t188 st)) ?_
    rw [r2, c1, b5']
    refine jz_eq (fun _ => c220 _ _ _) ?_
    by_cases hb : jr_row (nI N') (nI W) x2
    · rw [if_pos hb]
      obtain ⟨B, hB, rfl⟩ := jr_arg b2 hb
      refine jz_eq (fun _ => u219_35) (jz_if (fun _ => ?_) (fun g => absurd i1_0 g))
      refine jz_eq (fun _ => u219_40 (st_t180 st)) (jz_call (y218 h0 ⟨b2, eN', hr⟩ h.2) (fun v G1 hm hv => ?_))
      obtain rfl := hv
      obtain ⟨h1, hr1, hH1, e188⟩ := hm
      have st1 := h1.1
      have r2 := st_r180_17 st1
      have nil : jz (jPH (c + 1) H0) jz_I (fun Q => jm_w S 5 219 62 [.ref 180, .int (nI A), .int (nI B), .int x3, .int (nI N'), .null] [] G1 Q) :=
        jz_eq (fun _ => u219_62) (jz_mono (l219a (S := S) h1 hr1 hH1 18 2 (by decide) (by decide) zro_0) (fun X hX => ⟨jP_mono (Nat.le_succ c) hX.1, hX.2⟩) (fun _ r => r))
      refine jz_eq (fun _ => u219_44.trans (c204 (by omega) (by omega) (by omega))) ?_
      by_cases hn : A = 2 ^ (N' - 1)
      · rw [if_pos hn]
        exact jz_eq (fun _ => u219_50) (jz_if (fun _ => nil) (fun g => absurd i1_0 g))
      · rw [if_neg hn]
        refine jz_eq (fun _ => u219_50) (jz_if (fun _ => nil) (fun _ => ?_))
        refine jz_eq (fun _ => u219_53.trans (c204 (by omega) (by omega) (by omega))) ?_
        by_cases hnB : B = 2 ^ (N' - 1)
        · rw [if_pos hnB]
          exact jz_eq (fun _ => u219_59) (jz_if (fun g => absurd g i1_0) (fun _ => nil))
        · rw [if_neg hnB]
          refine jz_eq (fun _ => u219_59) (jz_if (fun _ => ?_) (fun _ => nil))
          refine jz_eq (fun _ => u219_93 (st_t180 st1) (by rw [r2]; decide) (by rw [r2, st_l188 st1]; decide) (by rw [r2]; decide) (by rw [r2]; exact st_t188 st1)) (jz_if (fun _ => ?_) (fun _ => ?_))
          · have hcc : c * 2 ^ 230 ≤ 600 * 2 ^ 230 := Nat.mul_le_mul_right _ hc
            obtain ⟨K, fK, zK, qK⟩ := t221 (S := S) (z := z) st1 (by rw [e188]; exact b6) (fun k hk => by rw [e188, show 4 + k = 0 + 4 + k by omega]; exact b7 k hk) (Nat.lt_of_le_of_lt (Nat.le_trans b8 hcc) (by decide))
            have hK := jP0_fm h1 fK
            have stK := hK.1
            have rK := st_r180_17 stK
            have eK : jm_I K 188 = jm_I G 188 := ((fK.1.2.2.2.2 188 (by decide)).1).trans e188
            have k1 : jm_I K 188 1 = nI W := by rw [eK]; exact b5'
            have k0 : jm_I K 188 0 = nI N' := by rw [eK]; exact eN'
            have rK' : rws K N' l := rws_fm fK hr1.2.2
            refine jz_eq (fun _ => u219_105 (st_t180 st1)) (jz_eq (fun _ => qK _) ?_)
            refine jz_eq (fun _ => u219_109 (st_t180 stK) (by rw [rK]; decide) (by rw [rK, st_l188 stK]; decide) (by rw [rK]; decide) (by rw [rK]; exact st_t188 stK)) ?_
            rw [rK, c1, k1]
            refine jz_if (fun _ => ?_) (fun _ => ?_)
            · exact jz_eq (fun _ => u219_128) (f219 (S := S) (b := 1) hc hK b1 b2 b3 k0 k1 rK' (jH_fm hH1 fK) zK b8 hA hn hB hnB (Or.inr rfl))
            · exact jz_eq (fun _ => u219_124) (f219 (S := S) (b := -1) hc hK b1 b2 b3 k0 k1 rK' (jH_fm hH1 fK) zK b8 hA hn hB hnB (Or.inl rfl))
          · exact jz_eq (fun _ => u219_103) (jz_end ⟨jP_mono (Nat.le_succ c) ⟨l, h1, N', hr1⟩, hH1⟩ ⟨_, rfl⟩)
    · rw [if_neg hb]
      exact jz_eq (fun _ => u219_35) (jz_if (fun g => absurd rfl g) (fun _ => h38))
  · rw [if_neg ha]
    exact jz_eq (fun _ => u219_20) (jz_if (fun _ => h38) (fun g => absurd rfl g))
end STORE9
