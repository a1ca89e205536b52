set_option maxRecDepth 20000
/-! the reference: a sum, digit by digit -/
def jq_sg (z : Int) : Int := if z < 0 then -1 else if z = 0 then 0 else 1
def jq_sm (H : jm_H) (z : Int) : Prop := jm_I H 180 52 = jI (jq_sg z) ∧ jq_dg H 205 z.natAbs
def jq_dm (H : jm_H) (j N D : Nat) : Prop := ∀ k, k < 16 → jm_I H 205 k = nI (if k < j then jq_d N k else jq_d D k)
theorem jq_sg_b (z : Int) : jq_sg z = -1 ∨ jq_sg z = 0 ∨ jq_sg z = 1 := by
  unfold jq_sg
  split
  · exact Or.inl rfl
  · split
    · exact Or.inr (Or.inl rfl)
    · exact Or.inr (Or.inr rfl)
section ADDS
variable {S : Option (Nat × (Nat → Int32))}
theorem s203 : ∀ (d i : Nat) (H : jm_H), i + d = 16 → jm_st H → (∀ k, k < i → jm_I H 205 k = 0) → ∃ H1, (∀ k, k < 16 → jm_I H1 205 k = 0) ∧ jf_fr (fun q => q = 205) H H1 ∧ ∀ Q, jm_w S 1 203 7 [.ref 180, .int (nI i)] [] H Q = Q none H1
  | 0, i, H, hd, st, hz => by
    refine ⟨H, fun k hk => hz k (by omega), jf_fr_refl H, fun Q => ?_⟩
    have : i = 16 := by omega
    subst this
    rw [u203_7, i32_16, if_pos (by decide), u203_26]
  | d + 1, i, H, hd, st, hz => by
    have r := st_r180_50 st
    have fr : jf_fr (fun q => q = 205) H (jm_pI H 205 i 0) := jf_fr_pI rfl
    obtain ⟨H1, z1, f1, q1⟩ := s203 d (i + 1) (jm_pI H 205 i 0) (by omega) (jf_fr_st fr st) (fun k hk => by
      rw [jm_I_pI]
      by_cases h : k = i
      · rw [if_pos ⟨rfl, h⟩]
      · rw [if_neg (fun g => h g.2)]
        exact hz k (by omega))
    refine ⟨H1, z1, jf_fr_trans fr f1, fun Q => ?_⟩
    rw [u203_7, i32_16, if_neg (show ¬ nI 16 ≤ nI i from fun g => by have := (nI_leI (by decide) (by omega)).mp g; omega), u203_13 (st_t180 st) (by rw [r]; decide) (by rw [r, st_l205 st]; exact nI_inK (by omega) (by decide)) (by rw [r]; exact st_t205 st), r, nI_cl (by omega), nI_succK]
    exact q1 Q
theorem jq_d0 (k : Nat) : jq_d 0 k = 0 := by
  unfold jq_d
  rw [Nat.zero_div]
theorem c203 {H : jm_H} (st : jm_st H) : ∃ H1, jq_sm H1 0 ∧ jq_fm H H1 ∧ ∀ Q, jm_c S 203 [.ref 180] H Q = Q none H1 := by
  have f0 : jq_fm H (jm_pI H 180 52 0) := jq_fm_I (by decide)
  obtain ⟨H1, z1, f1, q1⟩ := s203 (S := S) 16 0 (jm_pI H 180 52 0) (by decide) (jq_fm_st f0 st) (fun k hk => absurd hk (Nat.not_lt_zero k))
  refine ⟨H1, ⟨?_, by decide, fun k hk => ?_⟩, jq_fm_trans f0 ⟨jf_fr_mono f1 (fun q hq => Or.inr (Or.inl hq)), fun k hk => by rw [(f1.2.2.2.2 180 (by decide)).1]⟩, fun Q => ?_⟩
  · rw [(f1.2.2.2.2 180 (by decide)).1, jm_I_pI, if_pos ⟨rfl, rfl⟩]
    rfl
  · rw [z1 k hk]
    show _ = nI (jq_d 0 k)
    rw [jq_d0]
    rfl
  · rw [en203, u203_0 (st_t180 st)]
    exact q1 Q
theorem s207a {D X : Nat} {y1 : Int64} {x3 x4 : Int32} (hE : D + X < 65536 ^ 16) : ∀ (d i c : Nat) (w7 : Value) (H : jm_H), i + d = 16 → jm_st H → jq_dm H i (D + X) D → jq_dg H 206 X → c ≤ 1 → (D + X) / 65536 ^ i = D / 65536 ^ i + X / 65536 ^ i + c → ∃ H1, jq_dg H1 205 (D + X) ∧ jf_fr (fun q => q = 205) H H1 ∧ ∀ Q, jm_w S 2 207 31 [.ref 180, .long y1, .null, .int x3, .int x4, .int (nI c), .int (nI i), w7, .null] [] H Q = Q none (jm_pI H1 180 52 x4)
  | 0, i, c, w7, H, hd, st, hm, hX, hc, he => by
    have : i = 16 := by omega
    subst this
    refine ⟨H, ⟨hE, fun k hk => by rw [hm k hk, if_pos hk]⟩, jf_fr_refl H, fun Q => ?_⟩
    rw [u207_31, i32_16, if_pos (by decide), u207_84 (st_t180 st)]
  | d + 1, i, c, w7, H, hd, st, hm, hX, hc, he => by
    have r := st_r180_50 st
    have r' := st_r180_51 st
    have la := jq_d_lt D i
    have lb := jq_d_lt X i
    have a : jm_I H 205 i = nI (jq_d D i) := by rw [hm i (by omega), if_neg (Nat.lt_irrefl i)]
    have b := hX.2 i (by omega)
    have hin : ¬ (nI i < 0 ∨ 16 ≤ (nI i).toNatClampNeg) := nI_inK (by omega) (by decide)
    have ev : (jm_I H 205 i + jm_I H 206 i) + nI c = nI (jq_d D i + jq_d X i + c) := by rw [a, b, nI_addN, nI_addN]
    have esh : nI (jq_d D i + jq_d X i + c) >>> ((16 : Int32) &&& 31) = nI ((jq_d D i + jq_d X i + c) / 65536) := nI_shr (k := 16) (by omega) (by decide)
    have ean : nI (jq_d D i + jq_d X i + c) &&& (65535 : Int32) = nI (jq_d (D + X) i) := by
      rw [pk_andN (by omega) 16 (by decide)]
      congr 1
      unfold jq_d
      rw [he]
      omega
    have fr : jf_fr (fun q => q = 205) H (jm_pI H 205 i (nI (jq_d (D + X) i))) := jf_fr_pI rfl
    obtain ⟨H1, z1, f1, q1⟩ := s207a (y1 := y1) (x3 := x3) (x4 := x4) hE d (i + 1) ((jq_d D i + jq_d X i + c) / 65536) (.int (nI (jq_d D i + jq_d X i + c))) (jm_pI H 205 i (nI (jq_d (D + X) i))) (by omega) (jf_fr_st fr st) (fun k hk => by
      rw [jm_I_pI]
      by_cases h : k = i
      · rw [if_pos ⟨rfl, h⟩, if_pos (by omega), h]
      · rw [if_neg (fun g => h g.2), hm k hk]
        by_cases h2 : k < i
        · rw [if_pos h2, if_pos (by omega)]
        · rw [if_neg h2, if_neg (by omega)]) (jq_dg_fr fr (by decide) hX) (by omega) (by
      rw [jq_dv, jq_dv, jq_dv, he]
      unfold jq_d
      omega)
    refine ⟨H1, z1, jf_fr_trans fr f1, fun Q => ?_⟩
    rw [u207_31, i32_16, if_neg (show ¬ nI 16 ≤ nI i from fun g => by have := (nI_leI (by decide) (by omega)).mp g; omega),
      u207_38 (st_t180 st) (by rw [r]; decide) (by rw [r, st_l205 st]; exact hin) (by rw [r]; decide) (by rw [r]; exact st_t205 st) (by rw [r']; decide) (by rw [r', st_l206 st]; exact hin) (by rw [r']; decide) (by rw [r']; exact st_t206 st), r, r', nI_cl (by omega), ev, esh, ean, nI_succK]
    exact q1 Q
theorem s207b {B C : Nat} {y1 : Int64} {x3 x4 : Int32} {s : Int} (hs : s = -1 ∨ s = 0 ∨ s = 1) {D X : Nat} (hD : D = if s < 0 then C else B) (hX : X = if s < 0 then B else C) (hle : C ≤ B) (hB : B < 65536 ^ 16) : ∀ (d i c : Nat) (w8 : Value) (H : jm_H), i + d = 16 → jm_st H → jq_dm H i (B - C) D → jq_dg H 206 X → c ≤ 1 → B / 65536 ^ i = C / 65536 ^ i + (B - C) / 65536 ^ i + c → ∃ H1 x6 w', jq_dg H1 205 (B - C) ∧ jf_fr (fun q => q = 205) H H1 ∧ ∀ Q, jm_w S 2 207 110 [.ref 180, .long y1, .null, .int x3, .int x4, .int (jI s), .int (nI c), .int (nI i), w8] [] H Q = jm_w S 2 207 191 [.ref 180, .long y1, .null, .int x3, .int x4, .int (jI s), .int x6, .int (nI 16), w'] [] H1 Q
  | 0, i, c, w8, H, hd, st, hm, hX6, hc, he => by
    have : i = 16 := by omega
    subst this
    refine ⟨H, nI c, w8, ⟨by omega, fun k hk => by rw [hm k hk, if_pos hk]⟩, jf_fr_refl H, fun Q => ?_⟩
    rw [u207_110, i32_16, if_pos (by decide)]
  | d + 1, i, c, w8, H, hd, st, hm, hX6, hc, he => by
    have r := st_r180_50 st
    have r' := st_r180_51 st
    have lB := jq_d_lt B i
    have lC := jq_d_lt C i
    have a : jm_I H 205 i = nI (jq_d D i) := by rw [hm i (by omega), if_neg (Nat.lt_irrefl i)]
    have b := hX6.2 i (by omega)
    have hin : ¬ (nI i < 0 ∨ 16 ≤ (nI i).toNatClampNeg) := nI_inK (by omega) (by decide)
    have n16 : ¬ nI 16 ≤ nI i := fun g => by have := (nI_leI (by decide) (by omega)).mp g; omega
    have ean : jI ((jq_d B i : Int) - jq_d C i - c) &&& (65535 : Int32) = nI (jq_d (B - C) i) := by
      rw [jI_and _ (k := 16) (by decide) (by decide), jI_n]
      congr 1
      unfold jq_d
      rw [he]
      show _ % (65536 : Int) = _
      omega
    have fr : jf_fr (fun q => q = 205) H (jm_pI H 205 i (nI (jq_d (B - C) i))) := jf_fr_pI rfl
    obtain ⟨c', hc', hc2⟩ : ∃ c' : Nat, c' = (if (jq_d B i : Int) - jq_d C i - c < 0 then 1 else 0) ∧ c' ≤ 1 := ⟨_, rfl, by split <;> omega⟩
    obtain ⟨H1, x6, w', z1, f1, q1⟩ := s207b hs hD hX hle hB d (i + 1) c' (.int (jI ((jq_d B i : Int) - jq_d C i - c))) (jm_pI H 205 i (nI (jq_d (B - C) i))) (by omega) (jf_fr_st fr st) (fun k hk => by
      rw [jm_I_pI]
      by_cases h : k = i
      · rw [if_pos ⟨rfl, h⟩, if_pos (by omega), h]
      · rw [if_neg (fun g => h g.2), hm k hk]
        by_cases h2 : k < i
        · rw [if_pos h2, if_pos (by omega)]
        · rw [if_neg h2, if_neg (by omega)]) (jq_dg_fr fr (by decide) hX6) hc2 (by
      rw [jq_dv, jq_dv, jq_dv, hc']
      unfold jq_d
      rw [he]
      split <;> omega)
    refine ⟨H1, x6, w', z1, jf_fr_trans fr f1, fun Q => ?_⟩
    have h155 : jm_w S 2 207 155 [.ref 180, .long y1, .null, .int x3, .int x4, .int (jI s), .int (nI c), .int (nI i), w8] [.int (jI ((jq_d B i : Int) - jq_d C i))] H Q = jm_w S 2 207 191 [.ref 180, .long y1, .null, .int x3, .int x4, .int (jI s), .int x6, .int (nI 16), w'] [] H1 Q := by
      have eb : jI ((jq_d B i : Int) - jq_d C i) - nI c = jI ((jq_d B i : Int) - jq_d C i - c) := by rw [jI_n, jI_sub]
      have h170 : ∀ v : Int32, v = nI c' → jm_w S 2 207 170 [.ref 180, .long y1, .null, .int x3, .int x4, .int (jI s), .int (nI c), .int (nI i), .int (jI ((jq_d B i : Int) - jq_d C i - c))] [.int v] H Q = jm_w S 2 207 191 [.ref 180, .long y1, .null, .int x3, .int x4, .int (jI s), .int x6, .int (nI 16), w'] [] H1 Q := by
        rintro v rfl
        rw [u207_170 (st_t180 st) (by rw [r]; decide) (by rw [r, st_l205 st]; exact hin) (by rw [r]; exact st_t205 st), r, nI_cl (by omega), ean, nI_succK]
        exact q1 Q
      rw [u207_155, eb, jI_0, if_leI (by decide) ⟨by omega, by omega⟩]
      by_cases h : (jq_d B i : Int) - jq_d C i - c < 0
      · rw [if_neg (by omega), u207_165]
        exact h170 1 (by rw [hc', if_pos h]; rfl)
      · rw [if_pos (by omega), u207_169]
        exact h170 0 (by rw [hc', if_neg h]; rfl)
    rw [u207_110, i32_16, if_neg n16, u207_117, jI_0, if_leI (by decide) ⟨by omega, by omega⟩]
    by_cases h : s < 0
    · rw [if_pos h] at hD hX
      rw [if_neg (by omega), u207_122 (st_t180 st) (by rw [r']; decide) (by rw [r', st_l206 st]; exact hin) (by rw [r']; decide) (by rw [r']; exact st_t206 st) (by rw [r]; decide) (by rw [r, st_l205 st]; exact hin) (by rw [r]; decide) (by rw [r]; exact st_t205 st), r, r', nI_cl (by omega), a, b, hD, hX, jI_n (jq_d B i), jI_n (jq_d C i), jI_sub]
      exact h155
    · rw [if_neg h] at hD hX
      rw [if_pos (by omega), u207_140 (st_t180 st) (by rw [r]; decide) (by rw [r, st_l205 st]; exact hin) (by rw [r]; decide) (by rw [r]; exact st_t205 st) (by rw [r']; decide) (by rw [r', st_l206 st]; exact hin) (by rw [r']; decide) (by rw [r']; exact st_t206 st), r, r', nI_cl (by omega), a, b, hD, hX, jI_n (jq_d B i), jI_n (jq_d C i), jI_sub]
      exact h155
theorem c207 {H : jm_H} {m : Nat} {p z its : Int} (st : jm_st H) (hz : jq_sm H z) (h0 : 0 < m) (hm : m < 2 ^ 24) (hp : -112 ≤ p ∧ p ≤ 112) (hi : its = -1 ∨ its = 1) (hb : z.natAbs + m * 2 ^ (p + 112).toNat < 65536 ^ 16) : ∃ H1, jq_sm H1 (z + its * ((m * 2 ^ (p + 112).toNat : Nat) : Int)) ∧ jq_fm H H1 ∧ ∀ Q, jm_c S 207 [.ref 180, .long (lN m), .int (jI p), .int (jI its)] H Q = Q none H1 := by
  have r := st_r180_50 st
  have r' := st_r180_51 st
  obtain ⟨G, dG, fG, qG⟩ := c198 (S := S) (st_t206 st) (st_l206 st) hm hp
  have X0 : 0 < m * 2 ^ (p + 112).toNat := Nat.mul_pos h0 (Nat.two_pow_pos _)
  generalize m * 2 ^ (p + 112).toNat = X at *
  have stG := jf_fr_st fG st
  have fmG : jq_fm H G := ⟨jf_fr_mono fG (fun q hq => Or.inr (Or.inr hq)), fun k hk => by rw [(fG.2.2.2.2 180 (by decide)).1]⟩
  have d5 : jq_dg G 205 z.natAbs := jq_dg_fr fG (by decide) hz.2
  have s5 : jm_I G 180 52 = jI (jq_sg z) := by rw [(fG.2.2.2.2 180 (by decide)).1]; exact hz.1
  have hsg := jq_sg_b z
  have z0 : (jI (jq_sg z) = (0 : Int32)) = (jq_sg z = 0) := propext (jI_eq (b := 0) ⟨by omega, by omega⟩ (by decide))
  have zi : (jI (jq_sg z) = jI its) = (jq_sg z = its) := propext (jI_eq ⟨by omega, by omega⟩ ⟨by omega, by omega⟩)
  have fm5 : ∀ {G1 : jm_H}, jf_fr (fun q => q = 205) G G1 → jq_fm G G1 := fun f => ⟨jf_fr_mono f (fun q hq => Or.inr (Or.inl hq)), fun k hk => by rw [(f.2.2.2.2 180 (by decide)).1]⟩
  have start : ∀ Q, jm_c S 207 [.ref 180, .long (lN m), .int (jI p), .int (jI its)] H Q = if jq_sg z = 0 then jm_w S 2 207 25 [.ref 180, .long (lN m), .null, .int (jI p), .int (jI its), .null, .null, .null, .null] [] G Q else if ¬ jq_sg z = its then jm_w S 2 207 91 [.ref 180, .long (lN m), .null, .int (jI p), .int (jI its), .null, .null, .null, .null] [] G Q else jm_w S 2 207 25 [.ref 180, .long (lN m), .null, .int (jI p), .int (jI its), .null, .null, .null, .null] [] G Q := by
    intro Q
    rw [en207, u207_0 (st_t180 st) (by rw [r']; decide), r', qG]
    simp only [Option.toList_none, List.nil_append]
    rw [u207_9 (st_t180 stG), u207_16 (st_t180 stG), s5, ite_eqP z0, ite_eqP (congrArg Not zi)]
  by_cases hadd : jq_sg z = 0 ∨ jq_sg z = its
  · obtain ⟨G1, d1, f1, q1⟩ := s207a (S := S) (y1 := lN m) (x3 := jI p) (x4 := jI its) (D := z.natAbs) (X := X) hb 16 0 0 .null G (by decide) stG (fun k hk => by rw [d5.2 k hk, if_neg (Nat.not_lt_zero k)]) dG (by decide) (by rw [Nat.pow_zero, Nat.div_one, Nat.div_one, Nat.div_one, Nat.add_zero])
    have hval : (z + its * (X : Int)).natAbs = z.natAbs + X ∧ jq_sg (z + its * (X : Int)) = its := by
      unfold jq_sg at hadd ⊢
      rcases hi with rfl | rfl
      · by_cases h1 : z < 0
        · rw [if_pos (by omega)]; omega
        · by_cases h2 : z = 0
          · rw [if_pos (by omega)]; omega
          · rw [if_neg h1, if_neg h2] at hadd; omega
      · by_cases h1 : z < 0
        · rw [if_pos h1] at hadd; omega
        · rw [if_neg (by omega), if_neg (by omega)]; omega
    refine ⟨jm_pI G1 180 52 (jI its), ⟨?_, ?_⟩, jq_fm_trans fmG (jq_fm_trans (fm5 f1) (jq_fm_I (by decide))), fun Q => ?_⟩
    · rw [jm_I_pI, if_pos ⟨rfl, rfl⟩, hval.2]
    · rw [hval.1]
      exact jq_dg_fr (P := fun q => q = 180) (jf_fr_pI rfl) (by decide) d1
    · have e25 : jm_w S 2 207 25 [.ref 180, .long (lN m), .null, .int (jI p), .int (jI its), .null, .null, .null, .null] [] G Q = Q none (jm_pI G1 180 52 (jI its)) := by
        rw [u207_25]
        exact q1 Q
      rw [start]
      by_cases h1 : jq_sg z = 0
      · rw [if_pos h1, e25]
      · rw [if_neg h1, if_neg (fun g => g (by rcases hadd with h | h; exact absurd h h1; exact h)), e25]
  · have h1 : ¬ jq_sg z = 0 := fun h => hadd (Or.inl h)
    have h2 : ¬ jq_sg z = its := fun h => hadd (Or.inr h)
    have hc : jq_cmp z.natAbs X = -1 ∨ jq_cmp z.natAbs X = 0 ∨ jq_cmp z.natAbs X = 1 := by
      unfold jq_cmp
      split
      · exact Or.inl rfl
      · split
        · exact Or.inr (Or.inl rfl)
        · exact Or.inr (Or.inr rfl)
    obtain ⟨B, C, hB, hC⟩ : ∃ B C, B = max z.natAbs X ∧ C = min z.natAbs X := ⟨_, _, rfl, rfl⟩
    have hDB : z.natAbs = if jq_cmp z.natAbs X < 0 then C else B := by
      unfold jq_cmp
      by_cases g1 : z.natAbs < X
      · rw [if_pos g1, if_pos (by decide)]; omega
      · rw [if_neg g1]
        by_cases g2 : z.natAbs = X
        · rw [if_pos g2, if_neg (by decide)]; omega
        · rw [if_neg g2, if_neg (by decide)]; omega
    have hXB : X = if jq_cmp z.natAbs X < 0 then B else C := by
      unfold jq_cmp
      by_cases g1 : z.natAbs < X
      · rw [if_pos g1, if_pos (by decide)]; omega
      · rw [if_neg g1]
        by_cases g2 : z.natAbs = X
        · rw [if_pos g2, if_neg (by decide)]; omega
        · rw [if_neg g2, if_neg (by decide)]; omega
    obtain ⟨G1, x6, w', d1, f1, q1⟩ := s207b (S := S) (y1 := lN m) (x3 := jI p) (x4 := jI its) (B := B) (C := C) (D := z.natAbs) (X := X) hc hDB hXB (by omega) (by omega) 16 0 0 .null G (by decide) stG (fun k hk => by rw [d5.2 k hk, if_neg (Nat.not_lt_zero k)]) dG (by decide) (by rw [Nat.pow_zero, Nat.div_one, Nat.div_one, Nat.div_one]; omega)
    have st1 := jf_fr_st f1 stG
    have s1 : jm_I G1 180 52 = jI (jq_sg z) := by rw [(f1.2.2.2.2 180 (by decide)).1]; exact s5
    have hval : (z + its * (X : Int)).natAbs = B - C ∧ jq_sg (z + its * (X : Int)) = if z.natAbs = X then 0 else if z.natAbs < X then its else jq_sg z := by
      unfold jq_sg at h1 h2 ⊢
      rcases hi with rfl | rfl
      · by_cases g1 : z < 0
        · rw [if_pos g1] at h2; omega
        · by_cases g2 : z = 0
          · rw [if_neg g1, if_pos g2] at h1; omega
          · refine ⟨by omega, ?_⟩
            rw [if_neg g1, if_neg g2]
            by_cases g3 : z.natAbs = X
            · rw [if_pos g3, if_neg (by omega), if_pos (by omega)]
            · rw [if_neg g3]
              by_cases g4 : z.natAbs < X
              · rw [if_pos g4, if_pos (by omega)]
              · rw [if_neg g4, if_neg (by omega), if_neg (by omega)]
      · by_cases g1 : z < 0
        · refine ⟨by omega, ?_⟩
          rw [if_pos g1]
          by_cases g3 : z.natAbs = X
          · rw [if_pos g3, if_neg (by omega), if_pos (by omega)]
          · rw [if_neg g3]
            by_cases g4 : z.natAbs < X
            · rw [if_pos g4, if_neg (by omega), if_neg (by omega)]
            · rw [if_neg g4, if_pos (by omega)]
        · by_cases g2 : z = 0
          · rw [if_neg g1, if_pos g2] at h1; omega
          · rw [if_neg g1, if_neg g2] at h2; omega
    refine ⟨jm_pI G1 180 52 (jI (jq_sg (z + its * (X : Int)))), ⟨?_, ?_⟩, jq_fm_trans fmG (jq_fm_trans (fm5 f1) (jq_fm_I (by decide))), fun Q => ?_⟩
    · rw [jm_I_pI, if_pos ⟨rfl, rfl⟩]
    · rw [hval.1]
      exact jq_dg_fr (P := fun q => q = 180) (jf_fr_pI rfl) (by decide) d1
    · rw [start, if_neg h1, if_pos h2, u207_91 (st_t180 stG) (by rw [st_r180_50 stG]; decide) (by rw [st_r180_51 stG]; decide), st_r180_50 stG, st_r180_51 stG, c199 d5 dG (by decide) (by decide) (st_t205 stG) (st_t206 stG) (st_l205 stG) (st_l206 stG)]
      simp only [Option.toList_some, List.append_nil]
      rw [u207_102]
      show jm_w S 2 207 110 [.ref 180, .long (lN m), .null, .int (jI p), .int (jI its), .int (jI (jq_cmp z.natAbs X)), .int (nI 0), .int (nI 0), .null] [] G Q = _
      rw [q1, u207_191, ite_eqP (congrArg Not jq_c_eq), hval.2]
      by_cases g3 : z.natAbs = X
      · rw [if_neg (fun g => g g3), if_pos g3, u207_197, u207_215 (st_t180 st1)]
        rfl
      · rw [if_pos g3, if_neg g3, u207_201, ite_eqP jq_c_ge]
        by_cases g4 : z.natAbs < X
        · rw [if_neg (by omega), if_pos g4, u207_206, u207_215 (st_t180 st1)]
        · rw [if_pos (by omega), if_neg g4, u207_211 (st_t180 st1), s1, u207_215 (st_t180 st1)]
end ADDS
