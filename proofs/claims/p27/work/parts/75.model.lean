set_option maxRecDepth 20000
/-! the reference rounds quotients, roots, sums -/
/-- what is to be rounded is told by a number of the class -/
def jq_rep (N W : Nat) (c : Nat → Nat → Int) (m : Nat) (p : Int) : Prop := 0 < m ∧ -256 ≤ p ∧ (-160 ≤ (Nat.log2 m : Int) + p ∧ (Nat.log2 m : Int) + p ≤ 160) ∧ ∀ n A, (n = N ∨ n = N + 1) → 0 < A → A < 2 ^ (n - 1) → c n A = jq_cmp (jq_v m p) (jq_v (jf_mant n W A) (jf_pow n W A))
section MOD
variable {S : Option (Nat × (Nat → Int32))} {N W : Nat}
theorem c190r {I : jm_H → Prop} {c : Nat → Nat → Int} {m : Nat} {p : Int} {H : jm_H} (h1 : 3 ≤ N) (h2 : N ≤ 12) (hw : W ≤ 2) (hst : ∀ H, I H → jm_st H) (hpI : ∀ H v, I H → I (jm_pI H 180 58 v)) (hc : jq_ag S I c N W) (hr : jq_rep N W c m p) (hI : I H) : ∃ H1, I H1 ∧ jm_I H1 180 58 = jI (jq_rd N W m p).2 ∧ ∀ Q, jm_c S 190 [.ref 180, .int (nI N), .int (nI W)] H Q = Q (some (.int (nI (jq_rd N W m p).1))) H1 := by
  obtain ⟨h0, hp, hs, hr⟩ := hr
  refine c190 (a := jq_num W m p * 2 ^ (N - 1)) (K := 2 ^ jq_e W m p) h1 h2 (Nat.two_pow_pos _) hst hpI hc (fun A hA hA2 => ?_) (fun A hA hA2 => ?_) hI
  · rw [hr N A (Or.inl rfl) hA hA2, jq_vrow h1 (by omega) hw hA hA2 h0 hp hs]
  · have hh := p2_half (show 1 ≤ N by omega)
    have hA3 : 2 * A + 1 < 2 ^ (N + 1 - 1) := by
      rw [Nat.add_sub_cancel]
      omega
    rw [hr (N + 1) (2 * A + 1) (Or.inr rfl) (by omega) hA3, jq_vrow (by omega) (by omega) hw (by omega) hA3 h0 hp hs, Nat.add_sub_cancel, ← hh]
    congr 1
    ac_rfl
theorem c200 {A : Nat} {l its : Int} {H : jm_H} (st : jm_st H) (h2 : N ≤ 12) (hA : A ≤ 2 ^ N) (hl : jm_I H 180 58 = jI l) (hi : j3 its) : ∀ Q, jm_c S 200 [.ref 180, .int (nI N), .int (nI A), .int (jI its)] H Q = Q (some (.int (nI (if its < 0 then jf_neg N A else A)))) (jm_pI H 180 58 (jI (l * its))) := by
  intro Q
  rw [en200, u200_0 (st_t180 st), hl, jI_mul, jI_0, if_leI (by decide) hi]
  by_cases h : its < 0
  · rw [if_neg (by omega), if_pos h, u200_14, c194 h2 hA]
    simp only [Option.toList_some, List.append_nil]
    rw [u200_19, u200_23]
  · rw [if_pos (by omega), if_neg h, u200_22, u200_23]
theorem jq_rnd_s {s : Int} {m : Nat} {p : Int} (hs : s = -1 ∨ s = 1) : jq_rnd N W (some (s, m, p)) = (if s < 0 then jf_neg N (jq_rd N W (jq_sq m p).1 (jq_sq m p).2).1 else (jq_rd N W (jq_sq m p).1 (jq_sq m p).2).1, (jq_rd N W (jq_sq m p).1 (jq_sq m p).2).2 * s) := by
  unfold jq_rnd
  dsimp only
  rcases hs with rfl | rfl
  · rw [if_neg (by decide), if_neg (by decide), if_pos (by decide), Int.mul_neg, Int.mul_one]
  · rw [if_neg (by decide), if_pos (by decide), if_neg (by decide), Int.mul_one]
theorem c189 {om um m : Nat} {op uq p its : Int} {H : jm_H} (st : jm_st H) (h1 : 3 ≤ N) (h2 : N ≤ 12) (hw : W ≤ 2) (hom : 0 < om) (hom2 : om < 4611686018427387904) (hum : 0 < um) (hum2 : um < 2 ^ 24) (hop : -200 ≤ op ∧ op ≤ 200) (huq : -200 ≤ uq ∧ uq ≤ 200) (hits : its = -1 ∨ its = 1) (hr : jq_rep N W (fun n A => jq_cmp (jq_v om op) (jq_v (um * jf_mant n W A) (uq + jf_pow n W A))) (jq_sq m p).1 (jq_sq m p).2) : ∃ H1, jq_fm H H1 ∧ jm_I H1 180 58 = jI (jq_rnd N W (some (its, m, p))).2 ∧ ∀ Q, jm_c S 189 [.ref 180, .int (nI N), .int (nI W), .long (lN om), .int (jI op), .long (lN um), .int (jI uq), .int (jI its)] H Q = Q (some (.int (nI (jq_rnd N W (some (its, m, p))).1))) H1 := by
  let G : jm_H := jm_pI (jm_pL (jm_pI (jm_pL (jm_pI (jm_pI H 180 58 0) 180 53 1) 180 54 (lN om)) 180 55 (jI op)) 180 56 (lN um)) 180 57 (jI uq)
  have fG : jq_fm H G := jq_fm_trans (jq_fm_trans (jq_fm_trans (jq_fm_trans (jq_fm_trans (jq_fm_I (by decide)) (jq_fm_I (by decide))) jq_fm_L) (jq_fm_I (by decide))) jq_fm_L) (jq_fm_I (by decide))
  have stG := jq_fm_st fG st
  have iG : jq_IQ G om op um uq G := by
    refine ⟨stG, jq_fm_refl G, ?_, ?_, ?_, ?_, ?_⟩ <;> simp only [G, jm_I_pI, jm_I_pL, jm_L_pI, jm_L_pL, true_and, Nat.reduceEqDiff, if_true, if_false, and_false]
  obtain ⟨H1, i1, m1, q1⟩ := c190r (S := S) h1 h2 hw (fun H h => h.1) (fun H v h => ⟨jq_fm_st (jq_fm_I (by decide)) h.1, jq_fm_trans h.2.1 (jq_fm_I (by decide)), by rw [jm_I_pI, if_neg (by omega)]; exact h.2.2.1, h.2.2.2.1, by rw [jm_I_pI, if_neg (by omega)]; exact h.2.2.2.2.1, h.2.2.2.2.2.1, by rw [jm_I_pI, if_neg (by omega)]; exact h.2.2.2.2.2.2⟩) (a192Q h1 h2 hw hom hom2 hum hum2 hop huq) hr iG
  have hle := jq_rd_le (N := N) (W := W) (m := (jq_sq m p).1) (p := (jq_sq m p).2) h1
  have hh := p2_half (show 1 ≤ N by omega)
  have q2 := c200 (S := S) (N := N) (its := its) i1.1 h2 (show (jq_rd N W (jq_sq m p).1 (jq_sq m p).2).1 ≤ 2 ^ N by omega) m1 ⟨by omega, by omega⟩
  refine ⟨_, jq_fm_trans fG (jq_fm_trans i1.2.1 (jq_fm_I (k := 58) (v := jI ((jq_rd N W (jq_sq m p).1 (jq_sq m p).2).2 * its)) (by decide))), ?_, fun Q => ?_⟩
  · rw [jm_I_pI, if_pos ⟨rfl, rfl⟩, jq_rnd_s hits]
  · have hn : ¬ lN om = (0 : Int64) := fun h => by
      have := (lN_eqS (b := 0) (by omega) (by decide)).mp h
      omega
    rw [en189, u189_0 (st_t180 st), if_pos (by rw [lg_cmp0]; exact hn), u189_13 (st_t180 (jq_fm_st (jq_fm_I (by decide)) st))]
    show jm_c S 190 [.ref 180, .int (nI N), .int (nI W)] G _ = _
    rw [q1]
    simp only [Option.toList_some, List.cons_append, List.nil_append]
    rw [u189_49 (st_t180 i1.1), q2]
    simp only [Option.toList_some, List.append_nil]
    rw [u189_54, jq_rnd_s hits]
theorem c189z {um : Nat} {op uq its : Int} {H : jm_H} (st : jm_st H) : ∀ Q, jm_c S 189 [.ref 180, .int (nI N), .int (nI W), .long (lN 0), .int (jI op), .long (lN um), .int (jI uq), .int (jI its)] H Q = Q (some (.int (nI 0))) (jm_pI H 180 58 0) := by
  intro Q
  rw [en189, u189_0 (st_t180 st), if_neg (by decide), u189_11]
  rfl
/-- a sum -/
def jq_IS (H0 : jm_H) (D : Nat) (H : jm_H) : Prop := jm_st H ∧ jq_fm H0 H ∧ jm_I H 180 53 = 0 ∧ jm_I H 180 52 = jm_I H0 180 52 ∧ jq_dg H 205 D
theorem a192S {H0 : jm_H} {D : Nat} (h1 : 3 ≤ N) (h2 : N ≤ 12) (hw : W ≤ 2) : jq_ag S (jq_IS H0 D) (fun n A => jq_cmp D (jq_zn (jf_mant n W A) (jf_pow n W A))) N W := by
  intro H n A hI hn hA hA2
  obtain ⟨st, fm, i53, i52, dd⟩ := hI
  have hn1 : 3 ≤ n ∧ n ≤ 13 := by omega
  have hb := jf_bare_id hA2
  have hh := p2_half (show 1 ≤ n by omega)
  obtain ⟨m1, m2, p1, p2⟩ := jq_row_b hn1.1 hn1.2 hw hA hA2
  have fo := jq_fm_open (H := H) n W A
  have sto := jq_fm_st fo st
  obtain ⟨G, dG, fG, qG⟩ := c198 (S := S) (H := jf_open 180 n W A H) (st_t206 sto) (st_l206 sto) (m := jf_mant n W A) (p := jf_pow n W A) (by omega) (by omega)
  have stG := jf_fr_st fG sto
  have e180 := (fG.2.2.2.2 180 (by decide)).1
  have fmG : jq_fm (jf_open 180 n W A H) G := ⟨jf_fr_mono fG (fun q hq => Or.inr (Or.inr hq)), fun k hk => by rw [e180]⟩
  have do' : jq_dg (jf_open 180 n W A H) 205 D := ⟨dd.1, fun k hk => by rw [jf_open_I _ _ _ _ _ (by decide)]; exact dd.2 k hk⟩
  have dG5 : jq_dg G 205 D := jq_dg_fr fG (by decide) do'
  refine ⟨G, ⟨stG, jq_fm_trans fm (jq_fm_trans fo fmG), by rw [e180, jf_open_o _ _ _ _ (by decide)]; exact i53, by rw [e180, jf_open_o _ _ _ _ (by decide)]; exact i52, dG5⟩, by rw [e180, jf_open_o _ _ _ _ (by decide)], fun Q => ?_⟩
  have t := st_t180 sto
  rw [en192, u192_0 (st_t180 st), c193 (st_t180 st) hn1.1 hn1.2 hw (by omega), hb]
  simp only [Option.toList_none, List.nil_append]
  rw [u192_7 t, jf_open_o _ _ _ _ (by decide), i53, if_pos (by decide), u192_46 t, jf_open_o _ _ _ _ (by decide), i53, if_pos (by decide), u192_83 t (by rw [st_r180_51 sto]; decide), st_r180_51 sto, jf_open_m, jf_open_p, nI_l (by omega), qG]
  simp only [Option.toList_none, List.nil_append]
  rw [u192_99 (st_t180 stG) (by rw [st_r180_50 stG]; decide) (by rw [st_r180_51 stG]; decide), st_r180_50 stG, st_r180_51 stG, c199 dG5 dG (by decide) (by decide) (st_t205 stG) (st_t206 stG) (st_l205 stG) (st_l206 stG)]
  simp only [Option.toList_some, List.append_nil]
  rw [u192_110]
  rfl
theorem c208z {H : jm_H} (st : jm_st H) (hz : jq_sm H 0) : ∀ Q, jm_c S 208 [.ref 180, .int (nI N), .int (nI W)] H Q = Q (some (.int (nI 0))) (jm_pI H 180 58 0) := by
  intro Q
  have h : jm_I (jm_pI H 180 58 (0 : Int32)) 180 52 = 0 := by
    rw [jm_I_pI, if_neg (by omega)]
    exact hz.1
  rw [en208, u208_0 (st_t180 st), h, if_neg (by decide), u208_12]
  rfl
theorem c208 {z : Int} {m : Nat} {p : Int} {H : jm_H} (st : jm_st H) (h1 : 3 ≤ N) (h2 : N ≤ 12) (hw : W ≤ 2) (hz : jq_sm H z) (h0 : z ≠ 0) (hr : jq_rep N W (fun n A => jq_cmp z.natAbs (jq_zn (jf_mant n W A) (jf_pow n W A))) (jq_sq m p).1 (jq_sq m p).2) : ∃ H1, jq_fm H H1 ∧ jm_I H1 180 58 = jI (jq_rnd N W (some (jq_sg z, m, p))).2 ∧ ∀ Q, jm_c S 208 [.ref 180, .int (nI N), .int (nI W)] H Q = Q (some (.int (nI (jq_rnd N W (some (jq_sg z, m, p))).1))) H1 := by
  have hits : jq_sg z = -1 ∨ jq_sg z = 1 := by
    unfold jq_sg
    by_cases h : z < 0
    · rw [if_pos h]; exact Or.inl rfl
    · rw [if_neg h, if_neg h0]; exact Or.inr rfl
  let G : jm_H := jm_pI (jm_pI H 180 58 0) 180 53 0
  have fG : jq_fm H G := jq_fm_trans (jq_fm_I (by decide)) (jq_fm_I (by decide))
  have stG := jq_fm_st fG st
  have h52 : ∀ v w : Int32, jm_I (jm_pI (jm_pI H 180 58 v) 180 53 w) 180 52 = jI (jq_sg z) := fun v w => by
    rw [jm_I_pI, if_neg (by omega), jm_I_pI, if_neg (by omega)]
    exact hz.1
  have iG : jq_IS G z.natAbs G := by
    refine ⟨stG, jq_fm_refl G, ?_, rfl, ?_⟩
    · show jm_I (jm_pI (jm_pI H 180 58 0) 180 53 0) 180 53 = 0
      rw [jm_I_pI, if_pos ⟨rfl, rfl⟩]
    · exact jq_dg_fr (P := fun q => q = 180) (jf_fr_trans (jf_fr_pI rfl) (jf_fr_pI rfl)) (by decide) hz.2
  obtain ⟨H1, i1, m1, q1⟩ := c190r (S := S) h1 h2 hw (fun H h => h.1) (fun H v h => ⟨jq_fm_st (jq_fm_I (by decide)) h.1, jq_fm_trans h.2.1 (jq_fm_I (by decide)), by rw [jm_I_pI, if_neg (by omega)]; exact h.2.2.1, by rw [jm_I_pI, if_neg (by omega)]; exact h.2.2.2.1, jq_dg_fr (P := fun q => q = 180) (jf_fr_pI rfl) (by decide) h.2.2.2.2⟩) (a192S h1 h2 hw) hr iG
  have hle := jq_rd_le (N := N) (W := W) (m := (jq_sq m p).1) (p := (jq_sq m p).2) h1
  have hh := p2_half (show 1 ≤ N by omega)
  have s1 : jm_I H1 180 52 = jI (jq_sg z) := by rw [i1.2.2.2.1]; exact h52 0 0
  have q2 := c200 (S := S) (N := N) (its := jq_sg z) i1.1 h2 (show (jq_rd N W (jq_sq m p).1 (jq_sq m p).2).1 ≤ 2 ^ N by omega) m1 ⟨by omega, by omega⟩
  refine ⟨_, jq_fm_trans fG (jq_fm_trans i1.2.1 (jq_fm_I (k := 58) (v := jI ((jq_rd N W (jq_sq m p).1 (jq_sq m p).2).2 * jq_sg z)) (by decide))), ?_, fun Q => ?_⟩
  · rw [jm_I_pI, if_pos ⟨rfl, rfl⟩, jq_rnd_s hits]
  · have h : jm_I (jm_pI H 180 58 (0 : Int32)) 180 52 = jI (jq_sg z) := by
      rw [jm_I_pI, if_neg (by omega)]
      exact hz.1
    have hn : ¬ jI (jq_sg z) = (0 : Int32) := by rcases hits with h | h <;> rw [h] <;> decide
    rw [en208, u208_0 (st_t180 st), h, if_pos hn, u208_14 (st_t180 (jq_fm_st (jq_fm_I (by decide)) st))]
    show jm_c S 190 [.ref 180, .int (nI N), .int (nI W)] G _ = _
    rw [q1]
    simp only [Option.toList_some, List.cons_append, List.nil_append]
    rw [u208_27 (st_t180 i1.1) (st_t180 i1.1), s1, q2]
    simp only [Option.toList_some, List.append_nil]
    rw [u208_34, jq_rnd_s hits]
/-! a row's worth; rows and products come to the sum -/
def jq_zr (N W A : Nat) : Int := if A = 0 then 0 else (if A < 2 ^ (N - 1) then 1 else -1) * (jq_zn (jf_mant N W (jf_bare N A)) (jf_pow N W (jf_bare N A)) : Nat)
theorem jq_zn_b {m : Nat} {p : Int} (hm : m < 2 ^ 24) (hp : p ≤ 112) : jq_zn m p < 2 ^ 248 := by
  unfold jq_zn
  have h1 : 2 ^ (p + 112).toNat ≤ 2 ^ 224 := p2_le (by omega)
  have := Nat.mul_lt_mul_of_lt_of_le hm h1 (by decide)
  exact Nat.lt_of_lt_of_le this (by decide)
theorem jf_sgn_1 {A : Nat} (h0 : A ≠ 0) (hn : A ≠ 2 ^ (N - 1)) : jf_sgn N A = if A < 2 ^ (N - 1) then 1 else -1 := by
  unfold jf_sgn
  rw [if_neg (by omega)]
  by_cases h : A < 2 ^ (N - 1)
  · rw [if_neg (by omega), if_pos h]
  · rw [if_pos (by omega), if_neg h]
theorem c210 {A : Nat} {z b : Int} {H : jm_H} (st : jm_st H) (h1 : 3 ≤ N) (h2 : N ≤ 12) (hw : W ≤ 2) (hA : A < 2 ^ N) (hn : A ≠ 2 ^ (N - 1)) (hz : jq_sm H z) (hb : b = -1 ∨ b = 1) (hzb : z.natAbs < 2 ^ 255) : ∃ H1, jq_sm H1 (z + b * jq_zr N W A) ∧ jq_fm H H1 ∧ ∀ Q, jm_c S 210 [.ref 180, .int (nI N), .int (nI W), .int (nI A), .int (jI b)] H Q = Q none H1 := by
  have hp := p2_12 h2
  by_cases h0 : A = 0
  · subst h0
    refine ⟨H, ?_, jq_fm_refl H, fun Q => ?_⟩
    · have : jq_zr N W 0 = 0 := if_pos rfl
      rw [this, Int.mul_zero, Int.add_zero]
      exact hz
    · rw [en210, u210_0, if_neg (by decide), u210_4]
  · obtain ⟨b1, b2⟩ := jf_bare_pos (show 1 ≤ N by omega) hA h0 hn
    obtain ⟨m1, m2, p1, p2⟩ := jq_row_b h1 (by omega) hw b1 b2
    have fo := jq_fm_open (H := H) N W (jf_bare N A)
    have sto := jq_fm_st fo st
    have hzo : jq_sm (jf_open 180 N W (jf_bare N A) H) z := ⟨by rw [jf_open_o _ _ _ _ (by decide)]; exact hz.1, ⟨hz.2.1, fun k hk => by rw [jf_open_I _ _ _ _ _ (by decide)]; exact hz.2.2 k hk⟩⟩
    have hzn := jq_zn_b (m := jf_mant N W (jf_bare N A)) (p := jf_pow N W (jf_bare N A)) (by omega) (by omega)
    have hs := jf_sgn_1 (N := N) h0 hn
    have hsb : b * jf_sgn N A = -1 ∨ b * jf_sgn N A = 1 := by
      rw [hs]
      rcases hb with rfl | rfl <;> split <;> decide
    obtain ⟨H1, z1, f1, q1⟩ := c207 (S := S) sto hzo m1 (show jf_mant N W (jf_bare N A) < 2 ^ 24 by omega) (show -112 ≤ jf_pow N W (jf_bare N A) ∧ jf_pow N W (jf_bare N A) ≤ 112 by omega) hsb (by
      show z.natAbs + jq_zn (jf_mant N W (jf_bare N A)) (jf_pow N W (jf_bare N A)) < 65536 ^ 16
      have : (65536 : Nat) ^ 16 = 2 ^ 256 := by decide
      omega)
    refine ⟨H1, ?_, jq_fm_trans fo f1, fun Q => ?_⟩
    · have : jq_zr N W A = jf_sgn N A * (jq_zn (jf_mant N W (jf_bare N A)) (jf_pow N W (jf_bare N A)) : Nat) := by
        unfold jq_zr
        rw [if_neg h0, hs]
      rw [this, ← Int.mul_assoc]
      exact z1
    · have z0 : ¬ nI A = (0 : Int32) := fun h => h0 ((nI_eqI (b := 0) (by omega) (by decide)).mp h)
      rw [en210, u210_0, if_pos z0, u210_5 (st_t180 st), c193 (st_t180 st) h1 (by omega) hw hA]
      simp only [Option.toList_none, List.nil_append]
      rw [u210_12 (st_t180 sto), c206 (by omega) h2 hA, jf_open_m, jf_open_p, nI_l (by omega)]
      simp only [Option.toList_some, List.cons_append, List.nil_append]
      rw [u210_29 (st_t180 sto), jI_mul, q1]
      simp only [Option.toList_none, List.nil_append]
      rw [u210_33]
/-- the worth of a product -/
def jq_zp (N W A B : Nat) : Int := if A = 0 ∨ B = 0 then 0 else (if A < 2 ^ (N - 1) then 1 else -1) * (if B < 2 ^ (N - 1) then 1 else -1) * (jq_zn (jf_mant N W (jf_bare N A) * jf_mant N W (jf_bare N B)) (jf_pow N W (jf_bare N A) + jf_pow N W (jf_bare N B)) : Nat)
theorem c205 {A B : Nat} {z b : Int} {H : jm_H} (st : jm_st H) (h1 : 3 ≤ N) (h2 : N ≤ 12) (hw : W ≤ 2) (hA : A < 2 ^ N) (hn : A ≠ 2 ^ (N - 1)) (hB : B < 2 ^ N) (hnB : B ≠ 2 ^ (N - 1)) (hz : jq_sm H z) (hb : b = -1 ∨ b = 1) (hzb : z.natAbs < 2 ^ 255) : ∃ H1, jq_sm H1 (z + b * jq_zp N W A B) ∧ jq_fm H H1 ∧ ∀ Q, jm_c S 205 [.ref 180, .int (nI N), .int (nI W), .int (nI A), .int (nI B), .int (jI b)] H Q = Q none H1 := by
  have hp := p2_12 h2
  have z0 : (nI A = (0 : Int32)) = (A = 0) := propext (nI_eqI (b := 0) (by omega) (by decide))
  have z1 : (nI B = (0 : Int32)) = (B = 0) := propext (nI_eqI (b := 0) (by omega) (by decide))
  by_cases h0 : A = 0 ∨ B = 0
  · refine ⟨H, ?_, jq_fm_refl H, fun Q => ?_⟩
    · have : jq_zp N W A B = 0 := if_pos h0
      rw [this, Int.mul_zero, Int.add_zero]
      exact hz
    · rw [en205, u205_0, ite_eqP z0, u205_4, ite_eqP (congrArg Not z1)]
      by_cases ha : A = 0
      · rw [if_pos ha, u205_9]
      · rw [if_neg ha, if_neg (by omega), u205_9]
  · have ha : A ≠ 0 := fun h => h0 (Or.inl h)
    have hb0 : B ≠ 0 := fun h => h0 (Or.inr h)
    obtain ⟨b1, b2⟩ := jf_bare_pos (show 1 ≤ N by omega) hA ha hn
    obtain ⟨m1, m2, p1, p2⟩ := jq_row_b h1 (by omega) hw b1 b2
    obtain ⟨b3, b4⟩ := jf_bare_pos (show 1 ≤ N by omega) hB hb0 hnB
    obtain ⟨m3, m4, p3, p4⟩ := jq_row_b h1 (by omega) hw b3 b4
    have fo := jq_fm_open (H := H) N W (jf_bare N A)
    have sto := jq_fm_st fo st
    have fo2 := jq_fm_open (H := jf_open 180 N W (jf_bare N A) H) N W (jf_bare N B)
    have sto2 := jq_fm_st fo2 sto
    have hzo : jq_sm (jf_open 180 N W (jf_bare N B) (jf_open 180 N W (jf_bare N A) H)) z := ⟨by rw [jf_open_o _ _ _ _ (by decide), jf_open_o _ _ _ _ (by decide)]; exact hz.1, ⟨hz.2.1, fun k hk => by rw [jf_open_I _ _ _ _ _ (by decide), jf_open_I _ _ _ _ _ (by decide)]; exact hz.2.2 k hk⟩⟩
    have hmm : jf_mant N W (jf_bare N A) * jf_mant N W (jf_bare N B) < 2 ^ 24 := by
      have := Nat.mul_lt_mul'' m2 m4
      omega
    have hzn := jq_zn_b (m := jf_mant N W (jf_bare N A) * jf_mant N W (jf_bare N B)) (p := jf_pow N W (jf_bare N A) + jf_pow N W (jf_bare N B)) hmm (by omega)
    have hs := jf_sgn_1 (N := N) ha hn
    have hs2 := jf_sgn_1 (N := N) hb0 hnB
    have hsb : b * jf_sgn N A * jf_sgn N B = -1 ∨ b * jf_sgn N A * jf_sgn N B = 1 := by
      rw [hs, hs2]
      rcases hb with rfl | rfl <;> split <;> split <;> decide
    obtain ⟨H1, zz, f1, q1⟩ := c207 (S := S) sto2 hzo (Nat.mul_pos m1 m3) hmm (show -112 ≤ jf_pow N W (jf_bare N A) + jf_pow N W (jf_bare N B) ∧ jf_pow N W (jf_bare N A) + jf_pow N W (jf_bare N B) ≤ 112 by omega) hsb (by
      show z.natAbs + jq_zn (jf_mant N W (jf_bare N A) * jf_mant N W (jf_bare N B)) (jf_pow N W (jf_bare N A) + jf_pow N W (jf_bare N B)) < 65536 ^ 16
      have : (65536 : Nat) ^ 16 = 2 ^ 256 := by decide
      omega)
    refine ⟨H1, ?_, jq_fm_trans fo (jq_fm_trans fo2 f1), fun Q => ?_⟩
    · have : jq_zp N W A B = jf_sgn N A * jf_sgn N B * (jq_zn (jf_mant N W (jf_bare N A) * jf_mant N W (jf_bare N B)) (jf_pow N W (jf_bare N A) + jf_pow N W (jf_bare N B)) : Nat) := by
        unfold jq_zp
        rw [if_neg h0, hs, hs2]
      rw [this, ← Int.mul_assoc, ← Int.mul_assoc]
      exact zz
    · rw [en205, u205_0, ite_eqP z0, if_neg ha, u205_4, ite_eqP (congrArg Not z1), if_pos hb0, u205_10 (st_t180 st), c193 (st_t180 st) h1 (by omega) hw hA]
      simp only [Option.toList_none, List.nil_append]
      rw [u205_17 (st_t180 sto), jf_open_m, jf_open_p, c193 (st_t180 sto) h1 (by omega) hw hB]
      simp only [Option.toList_none, List.nil_append]
      rw [u205_38 (st_t180 sto2), c206 (by omega) h2 hA, jf_open_m, jf_open_p, nI_l (by omega), nI_l (by omega), lN_mul, jI_add]
      simp only [Option.toList_some, List.cons_append, List.nil_append]
      rw [u205_61, c206 (by omega) h2 hB, jI_mul]
      simp only [Option.toList_some, List.cons_append, List.nil_append]
      rw [u205_68 (st_t180 sto2), jI_mul, q1]
      simp only [Option.toList_none, List.nil_append]
      rw [u205_72]
end MOD
