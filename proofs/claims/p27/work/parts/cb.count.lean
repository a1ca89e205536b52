set_option maxRecDepth 20000
/-! the reference's count -/
section COUNT
variable {S : Option (Nat × (Nat → Int32))} {c : Nat} {H0 : jm_H}
theorem l251 {l N : Nat} {G : jm_H} (st : jm_st G) (hN : 1 ≤ N ∧ N ≤ 12) (eN : jm_I G 188 0 = nI N) (hl : l ≤ 8) (e25 : jm_I G 180 25 = nI l) (hr : rws G N l) : ∀ (d i : Nat) {x1 : Int32}, i + d = l → jz (jE G) jz_I (fun Q => jm_w S 3 251 4 [.ref 180, .int x1, .int (nI i)] [] G Q)
  | 0, i, x1, hd => by
    obtain rfl : i = l := by omega
    refine jz_eq (fun _ => u251_4 (st_t180 st)) ?_
    rw [e25]
    exact jz_if (fun _ => jz_eq (fun _ => u251_42) (jz_end rfl ⟨_, rfl⟩)) (fun g => absurd ((nI_leI (a := i) (b := i) (by omega) (by omega)).mpr (Nat.le_refl _)) g)
  | d + 1, i, x1, hd => by
    have r17 := st_r180_17 st
    have r24 := st_r180_24 st
    obtain ⟨A, hA, eA⟩ := hr i (by omega)
    have p12 := p2_12 hN.2
    have h36 : ∀ x1 : Int32, jz (jE G) jz_I (fun Q => jm_w S 3 251 36 [.ref 180, .int x1, .int (nI i)] [] G Q) := fun x1 => jz_eq (fun _ => u251_36) (by rw [nI_succK]; exact l251 st hN eN hl e25 hr d (i + 1) (by omega))
    refine jz_eq (fun _ => u251_4 (st_t180 st)) ?_
    rw [e25]
    refine jz_if (fun g => ?_) (fun _ => ?_)
    · have := (nI_leI (a := l) (b := i) (by omega) (by omega)).mp g
      omega
    refine jz_eq (fun _ => u251_12 (st_t180 st) (by rw [r17]; decide) (by rw [r17, st_l188 st]; decide) (by rw [r17]; decide) (by rw [r17]; exact st_t188 st) (by rw [r24]; decide) (by rw [r24, st_l193 st]; exact nI_inK (by omega) (by decide)) (by rw [r24]; decide) (by rw [r24]; exact st_t193 st)) ?_
    rw [r17, r24, show Int32.toNatClampNeg 0 = 0 from by decide, nI_cl (by omega), eN, eA]
    refine jz_eq (fun _ => c204 (by omega) (by omega) (by omega)) ?_
    exact jz_eq (fun _ => u251_27) (jz_if (fun _ => h36 _) (fun _ => jz_eq (fun _ => u251_30) (h36 _)))
theorem l252i {i l : Nat} {G : jm_H} (st : jm_st G) (hl : l ≤ 8) (hi : i < l) (hk : ∀ x1 x3 x4 : Int32, jz (jE G) jz_I (fun Q => jm_w S 1 252 4 [.ref 180, .int x1, .int (nI (i + 1)), .int x3, .int x4] [] G Q)) : ∀ (d j : Nat) {x1 x3 : Int32}, j + d = i → jz (jE G) jz_I (fun Q => jm_w S 1 252 17 [.ref 180, .int x1, .int (nI i), .int x3, .int (nI j)] [] G Q)
  | 0, j, x1, x3, hd => by
    obtain rfl : j = i := by omega
    have h62 : ∀ x1 : Int32, jz (jE G) jz_I (fun Q => jm_w S 1 252 62 [.ref 180, .int x1, .int (nI j), .int x3, .int (nI j)] [] G Q) := fun x1 => jz_eq (fun _ => u252_62) (by rw [nI_succK]; exact hk _ _ _)
    refine jz_eq (fun _ => u252_17) (jz_if (fun _ => ?_) (fun g => absurd ((nI_leI (a := j) (b := j) (by omega) (by omega)).mpr (Nat.le_refl _)) g))
    exact jz_eq (fun _ => u252_55) (jz_if (fun _ => h62 _) (fun _ => jz_eq (fun _ => u252_59) (h62 _)))
  | d + 1, j, x1, x3, hd => by
    have r24 := st_r180_24 st
    have h48 : ∀ p0 : Int32, jz (jE G) jz_I (fun Q => jm_w S 1 252 48 [.ref 180, .int x1, .int (nI i), .int x3, .int (nI j)] [.int p0] G Q) := fun p0 => jz_eq (fun _ => u252_48) (by rw [nI_succK]; exact l252i st hl hi hk d (j + 1) (by omega))
    have h47 : jz (jE G) jz_I (fun Q => jm_w S 1 252 47 [.ref 180, .int x1, .int (nI i), .int x3, .int (nI j)] [] G Q) := jz_eq (fun _ => u252_47) (h48 _)
    refine jz_eq (fun _ => u252_17) (jz_if (fun g => ?_) (fun _ => ?_))
    · have := (nI_leI (a := i) (b := j) (by omega) (by omega)).mp g
      omega
    refine jz_eq (fun _ => u252_23) (jz_if (fun _ => h47) (fun _ => ?_))
    exact jz_eq (fun _ => u252_27 (st_t180 st) (by rw [r24]; decide) (by rw [r24, st_l193 st]; exact nI_inK (by omega) (by decide)) (by rw [r24]; decide) (by rw [r24]; exact st_t193 st) (by rw [r24, st_l193 st]; exact nI_inK (by omega) (by decide))) (jz_if (fun _ => h47) (fun _ => jz_eq (fun _ => u252_43) (h48 _)))
theorem l252 {l : Nat} {G : jm_H} (st : jm_st G) (hl : l ≤ 8) (e25 : jm_I G 180 25 = nI l) : ∀ (d i : Nat) {x1 : Int32} {w3 w4 : Value}, i + d = l → jz (jE G) jz_I (fun Q => jm_w S 1 252 4 [.ref 180, .int x1, .int (nI i), w3, w4] [] G Q)
  | 0, i, x1, w3, w4, hd => by
    obtain rfl : i = l := by omega
    refine jz_eq (fun _ => u252_4 (st_t180 st)) ?_
    rw [e25]
    exact jz_if (fun _ => jz_eq (fun _ => u252_68) (jz_end rfl ⟨_, rfl⟩)) (fun g => absurd ((nI_leI (a := i) (b := i) (by omega) (by omega)).mpr (Nat.le_refl _)) g)
  | d + 1, i, x1, w3, w4, hd => by
    refine jz_eq (fun _ => u252_4 (st_t180 st)) ?_
    rw [e25]
    refine jz_if (fun g => ?_) (fun _ => ?_)
    · have := (nI_leI (a := l) (b := i) (by omega) (by omega)).mp g
      omega
    exact jz_eq (fun _ => u252_12) (l252i (S := S) st hl (by omega) (fun _ _ _ => l252 st hl e25 d (i + 1) (by omega)) i 0 (by omega))
theorem bit_d {D i : Nat} (h : D < 2 ^ (i + 1)) (hb : jq_d D (i / 16) / 2 ^ (i % 16) % 2 = 0) : D < 2 ^ i := by
  unfold jq_d at hb
  have e : (2 : Nat) ^ i = 65536 ^ (i / 16) * 2 ^ (i % 16) := by
    rw [show (65536 : Nat) = 2 ^ 16 from rfl, ← Nat.pow_mul, ← Nat.pow_add, Nat.div_add_mod]
  have hp : 0 < (65536 : Nat) ^ (i / 16) := Nat.pow_pos (by decide)
  have hq : 0 < (2 : Nat) ^ (i % 16) := Nat.pow_pos (by decide)
  have hq2 : (2 : Nat) ^ (i % 16) * 2 ≤ 65536 := by
    have : (2 : Nat) ^ (i % 16) ≤ 2 ^ 15 := Nat.pow_le_pow_right (by decide) (by omega)
    have e15 : (2 : Nat) ^ 15 = 32768 := by decide
    omega
  have h1 : D / 65536 ^ (i / 16) < 2 ^ (i % 16) * 2 := Nat.div_lt_of_lt_mul (by rw [← Nat.mul_assoc, ← e, ← Nat.pow_succ]; exact h)
  rw [Nat.mod_eq_of_lt (by omega : D / 65536 ^ (i / 16) < 65536)] at hb
  have h2 : D / 65536 ^ (i / 16) / 2 ^ (i % 16) < 2 := Nat.div_lt_of_lt_mul h1
  have h3 : D / 65536 ^ (i / 16) / 2 ^ (i % 16) = 0 := by
    generalize D / 65536 ^ (i / 16) / 2 ^ (i % 16) = u at *
    omega
  have h4 : D / 65536 ^ (i / 16) < 2 ^ (i % 16) := by
    refine Nat.lt_of_not_le (fun g => ?_)
    have := Nat.div_pos g hq
    omega
  rw [e, Nat.mul_comm]
  exact (Nat.div_lt_iff_lt_mul hp).mp h4
theorem l253g {D : Nat} {G : jm_H} (st : jm_st G) (hd : ∀ k, k < 16 → jm_I G 188 (4 + k) = nI (jq_d D k)) (i : Nat) (hi : i < 256) (hD : D < 2 ^ (i + 1)) (hk : D < 2 ^ i → jz (jE G) jz_I (fun Q => jm_w S 2 253 17 [.ref 180, .int (nI i + (-1))] [] G Q)) : jz (jE G) jz_I (fun Q => jm_w S 2 253 17 [.ref 180, .int (nI i)] [] G Q) := by
  have r17 := st_r180_17 st
  have ei : (4 : Int32) + nI i / 16 = nI (4 + i / 16) := by rw [(d16 i hi).1]; exact nI_addN 4 _
  have hj : jq_d D (i / 16) < 65536 := by unfold jq_d; omega
  refine jz_eq (fun _ => u253_17 (st_t180 st) (by rw [r17]; decide) (by rw [r17, st_l188 st, ei]; exact nI_inK (by omega) (by decide)) (by rw [r17]; decide) (by rw [r17]; exact st_t188 st)) ?_
  rw [r17, ei, nI_cl (by omega), hd _ (by omega), (d16 i hi).2]
  refine jz_eq (fun _ => c195 (by omega) (by omega)) ?_
  have hb : jq_d D (i / 16) / 2 ^ (i % 16) % 2 < 2 := by omega
  refine jz_eq (fun _ => u253_35) (jz_if (fun _ => jz_eq (fun _ => u253_44) (jz_end rfl ⟨_, rfl⟩)) (fun g => ?_))
  exact jz_eq (fun _ => u253_38) (hk (bit_d hD ((nI_eqI (b := 0) (by omega) (by decide)).mp (Classical.not_not.mp g))))
theorem l253 {D : Nat} {G : jm_H} (st : jm_st G) (h0 : 0 < D) (hd : ∀ k, k < 16 → jm_I G 188 (4 + k) = nI (jq_d D k)) : ∀ (i : Nat), i < 256 → D < 2 ^ (i + 1) → jz (jE G) jz_I (fun Q => jm_w S 2 253 17 [.ref 180, .int (nI i)] [] G Q) := by
  intro i
  induction i with
  | zero => exact fun hi hD => l253g (S := S) st hd 0 hi hD (fun g => absurd h0 (by rw [Nat.pow_zero] at g; omega))
  | succ i ih => exact fun hi hD => l253g (S := S) st hd (i + 1) hi hD (fun g => by rw [nI_dec]; exact ih (by omega) g)
theorem l254b {G : jm_H} (st : jm_st G) {y1 : Int64} {x3 : Int32} : ∀ (d i : Nat) {x4 : Int32}, i + d = 6 → jz (jE G) jz_I (fun Q => jm_w S 1 254 83 [.ref 180, .long y1, .null, .int x3, .int x4, .int (nI i)] [] G Q)
  | 0, i, x4, hd => by
    obtain rfl : i = 6 := by omega
    have r17 := st_r180_17 st
    have h167 : ∀ (y1 q1 : Int64) (p0 : Int32), jz (jE G) jz_I (fun Q => jm_w S 1 254 167 [.ref 180, .long y1, .null, .int x3, .int x4, .int (nI 6)] [.long q1, .int p0] G Q) := fun _ _ _ => jz_eq (fun _ => u254_167) (jz_end rfl ⟨_, rfl⟩)
    have h146 : ∀ y1 : Int64, jz (jE G) jz_I (fun Q => jm_w S 1 254 146 [.ref 180, .long y1, .null, .int x3, .int x4, .int (nI 6)] [] G Q) := fun y1 => jz_eq (fun _ => u254_146 (st_t180 st) (by rw [r17]; decide) (by rw [r17, st_l188 st]; decide) (by rw [r17]; decide) (by rw [r17]; exact st_t188 st)) (jz_if (fun _ => jz_eq (fun _ => u254_166) (h167 _ _ _)) (fun _ => jz_eq (fun _ => u254_160) (h167 _ _ _)))
    have h142 : jz (jE G) jz_I (fun Q => jm_w S 1 254 142 [.ref 180, .long y1, .null, .int x3, .int x4, .int (nI 6)] [] G Q) := jz_eq (fun _ => u254_142) (h146 _)
    refine jz_eq (fun _ => u254_83) (jz_if (fun _ => ?_) (fun g => absurd (by decide) g))
    refine jz_eq (fun _ => u254_120) (jz_if (fun _ => h146 _) (fun _ => ?_))
    refine jz_eq (fun _ => u254_127) (jz_if (fun _ => h142) (fun _ => ?_))
    exact jz_eq (fun _ => u254_132) (jz_if (fun _ => h146 _) (fun _ => h142))
  | d + 1, i, x4, hd => by
    have r17 := st_r180_17 st
    have h112 : ∀ p0 : Int32, jz (jE G) jz_I (fun Q => jm_w S 1 254 112 [.ref 180, .long y1, .null, .int x3, .int x4, .int (nI i)] [.int p0] G Q) := fun p0 => jz_eq (fun _ => u254_112) (by rw [nI_succK]; exact l254b st d (i + 1) (by omega))
    have h111 : jz (jE G) jz_I (fun Q => jm_w S 1 254 111 [.ref 180, .long y1, .null, .int x3, .int x4, .int (nI i)] [] G Q) := jz_eq (fun _ => u254_111) (h112 _)
    have ei : (4 : Int32) + nI i = nI (4 + i) := nI_addN 4 _
    refine jz_eq (fun _ => u254_83) (jz_if (fun g => ?_) (fun _ => ?_))
    · have := (nI_leI (a := 6) (b := i) (by omega) (by omega)).mp g
      omega
    refine jz_eq (fun _ => u254_90) (jz_if (fun _ => h111) (fun _ => ?_))
    exact jz_eq (fun _ => u254_95 (st_t180 st) (by rw [r17]; decide) (by rw [r17, st_l188 st, ei]; exact nI_inK (by omega) (by decide)) (by rw [r17]; decide) (by rw [r17]; exact st_t188 st)) (jz_if (fun _ => h111) (fun _ => jz_eq (fun _ => u254_107) (h112 _)))
theorem l254a {G : jm_H} (st : jm_st G) : ∀ (d i : Nat) {y1 : Int64}, i = 6 + d → i ≤ 15 → jz (jE G) jz_I (fun Q => jm_w S 1 254 16 [.ref 180, .long y1, .null, .int (nI i), .null, .null] [] G Q)
  | 0, i, y1, hd, hi => by
    obtain rfl : i = 6 := by omega
    have r17 := st_r180_17 st
    have h78 : ∀ (x3 p0 : Int32), jz (jE G) jz_I (fun Q => jm_w S 1 254 78 [.ref 180, .long y1, .null, .int x3, .null, .null] [.int p0] G Q) := fun _ _ => jz_eq (fun _ => u254_78) (l254b (S := S) st 6 0 (by decide))
    refine jz_eq (fun _ => u254_16) (jz_if (fun _ => ?_) (fun g => absurd (by decide) g))
    exact jz_eq (fun _ => u254_58 (st_t180 st) (by rw [r17]; decide) (by rw [r17, st_l188 st]; decide) (by rw [r17]; decide) (by rw [r17]; exact st_t188 st)) (jz_if (fun _ => jz_eq (fun _ => u254_77) (h78 _ _)) (fun _ => jz_eq (fun _ => u254_73) (h78 _ _)))
  | d + 1, i, y1, hd, hi => by
    have r17 := st_r180_17 st
    have ei : (4 : Int32) + nI i = nI (4 + i) := nI_addN 4 _
    obtain rfl : i = (6 + d) + 1 := by omega
    have h51 : ∀ q0 : Int64, jz (jE G) jz_I (fun Q => jm_w S 1 254 51 [.ref 180, .long y1, .null, .int (nI (6 + d + 1)), .null, .null] [.long q0] G Q) := fun q0 => jz_eq (fun _ => u254_51) (by rw [nI_dec]; exact l254a st d (6 + d) rfl (by omega))
    refine jz_eq (fun _ => u254_16) (jz_if (fun g => ?_) (fun _ => ?_))
    · have := (nI_ltI (a := 6 + d + 1) (b := 7) (by omega) (by omega)).mp g
      omega
    refine jz_eq (fun _ => u254_22) (jz_if (fun _ => ?_) (fun _ => jz_eq (fun _ => u254_30) (h51 _)))
    exact jz_eq (fun _ => u254_36 (st_t180 st) (by rw [r17]; decide) (by rw [r17, st_l188 st, ei]; exact nI_inK (by omega) (by decide)) (by rw [r17]; decide) (by rw [r17]; exact st_t188 st)) (h51 _)
theorem z250 {x1 : Int32} {G : jm_H} (hc : c ≤ 600) (h : jPH c H0 G) : jz (jPH c H0) jz_I (fun Q => jm_c S 250 [.ref 180, .int x1] G Q) := by
  have st := jP_st h.1
  have r17 := st_r180_17 st
  obtain ⟨l, h0, N', hN', eN', hr⟩ := id h.1
  have hl := h0.2.2.2.2.2.1
  have e25 : jm_I G 180 25 = nI l := h0.2.2.2.2.2.2.1
  obtain ⟨N, W, z, b1, b2, b3, b4, b5, b6, b7, b8⟩ := h0.2.2.1
  obtain rfl : N' = N := nI_injK (by omega) (by omega) (eN'.symm.trans b4)
  refine jz_pu h ?_
  refine jz_eq (fun _ => en250.trans u250_0) ?_
  by_cases g : x1.toInt < 0 ∨ 10 < x1.toInt
  · exact jz_eq (fun _ => u250_1_d g) (jz_eq (fun _ => u250_206) (jz_end rfl ⟨_, rfl⟩))
  obtain ⟨m, hm, rfl⟩ := ji_nn (k := 11) (x := x1) (by omega) (by omega)
  have hs : m = 0 ∨ m = 1 ∨ m = 2 ∨ m = 3 ∨ m = 4 ∨ m = 5 ∨ m = 6 ∨ m = 7 ∨ m = 8 ∨ m = 9 ∨ m = 10 := by omega
  rcases hs with rfl | rfl | rfl | rfl | rfl | rfl | rfl | rfl | rfl | rfl | rfl
  · exact jz_eq (fun _ => u250_1_0) (jz_eq (fun _ => u250_60 (st_t180 st) (by rw [r17]; decide) (by rw [r17, st_l188 st]; decide) (by rw [r17]; decide) (by rw [r17]; exact st_t188 st)) (jz_end rfl ⟨_, rfl⟩))
  · exact jz_eq (fun _ => u250_1_1) (jz_eq (fun _ => u250_67 (st_t180 st) (by rw [r17]; decide) (by rw [r17, st_l188 st]; decide) (by rw [r17]; decide) (by rw [r17]; exact st_t188 st)) (jz_end rfl ⟨_, rfl⟩))
  · exact jz_eq (fun _ => u250_1_2) (jz_eq (fun _ => u250_74 (st_t180 st)) (jz_end rfl ⟨_, rfl⟩))
  · refine jz_eq (fun _ => u250_1_3) (jz_eq (fun _ => u250_79 (st_t180 st) (by rw [r17]; decide) (by rw [r17, st_l188 st]; decide) (by rw [r17]; decide) (by rw [r17]; exact st_t188 st)) (jz_if (fun _ => ?_) (fun _ => ?_)))
    · exact jz_eq (fun _ => u250_94 (st_t180 st) (by rw [r17]; decide) (by rw [r17, st_l188 st]; decide) (by rw [r17]; decide) (by rw [r17]; exact st_t188 st)) (jz_eq (fun _ => u250_100) (jz_end rfl ⟨_, rfl⟩))
    · exact jz_eq (fun _ => u250_89) (jz_eq (fun _ => u250_100) (jz_end rfl ⟨_, rfl⟩))
  · refine jz_eq (fun _ => u250_1_4) (jz_eq (fun _ => u250_101 (st_t180 st)) (jz_call (jz_eq (fun _ => en251.trans u251_0) (l251 (S := S) st ⟨by omega, b2⟩ eN' hl e25 hr l 0 (by omega))) (fun v G1 e hv => ?_)))
    obtain ⟨w, rfl⟩ := hv
    obtain rfl := e
    exact jz_eq (fun _ => u250_105) (jz_end rfl ⟨_, rfl⟩)
  · refine jz_eq (fun _ => u250_1_5) (jz_eq (fun _ => u250_106 (st_t180 st)) (jz_call (jz_eq (fun _ => en252.trans u252_0) (l252 (S := S) st hl e25 l 0 (by omega))) (fun v G1 e hv => ?_)))
    obtain ⟨w, rfl⟩ := hv
    obtain rfl := e
    exact jz_eq (fun _ => u250_110) (jz_end rfl ⟨_, rfl⟩)
  · exact jz_eq (fun _ => u250_1_6) (jz_eq (fun _ => u250_111 (st_t180 st)) (jz_end rfl ⟨_, rfl⟩))
  · exact jz_eq (fun _ => u250_1_7) (jz_eq (fun _ => u250_116 (st_t180 st)) (jz_end rfl ⟨_, rfl⟩))
  · have r42 := st_r180_42 st
    have t204 : jm_tg G 204 = 102 ∨ jm_tg G 204 = 103 := Or.inr (st_t204 st)
    have h164 : ∀ p1 p0 : Int32, jz (jE G) jz_I (fun Q => jm_w S 4 250 164 [.ref 180, .int (nI 8)] [.int p1, .int p0] G Q) := fun _ _ => jz_eq (fun _ => u250_164) (jz_end rfl ⟨_, rfl⟩)
    have h149 : ∀ p1 p0 : Int32, jz (jE G) jz_I (fun Q => jm_w S 4 250 149 [.ref 180, .int (nI 8)] [.int p1, .int p0] G Q) := fun _ _ => jz_eq (fun _ => u250_149 (st_t180 st) (by rw [r42]; decide) (by rw [r42, st_l204 st]; decide) (by rw [r42]; exact t204)) (jz_if (fun _ => jz_eq (fun _ => u250_163) (h164 _ _)) (fun _ => jz_eq (fun _ => u250_159) (h164 _ _)))
    have h135 : ∀ p0 : Int32, jz (jE G) jz_I (fun Q => jm_w S 4 250 135 [.ref 180, .int (nI 8)] [.int p0] G Q) := fun _ => jz_eq (fun _ => u250_135 (st_t180 st) (by rw [r42]; decide) (by rw [r42, st_l204 st]; decide) (by rw [r42]; exact t204)) (jz_if (fun _ => jz_eq (fun _ => u250_148) (h149 _ _)) (fun _ => jz_eq (fun _ => u250_144) (h149 _ _)))
    exact jz_eq (fun _ => u250_1_8) (jz_eq (fun _ => u250_121 (st_t180 st) (by rw [r42]; decide) (by rw [r42, st_l204 st]; decide) (by rw [r42]; exact t204)) (jz_if (fun _ => jz_eq (fun _ => u250_134) (h135 _)) (fun _ => jz_eq (fun _ => u250_130) (h135 _))))
  · refine jz_eq (fun _ => u250_1_9) (jz_eq (fun _ => u250_166 (st_t180 st) (by rw [r17]; decide) (by rw [r17, st_l188 st]; decide) (by rw [r17]; decide) (by rw [r17]; exact st_t188 st)) (jz_if (fun _ => ?_) (fun _ => ?_)))
    · have h253 : jz (jE G) jz_I (fun Q => jm_c S 253 [.ref 180] G Q) := by
        refine jz_eq (fun _ => en253.trans (u253_0 (st_t180 st) (by rw [r17]; decide) (by rw [r17, st_l188 st]; decide) (by rw [r17]; decide) (by rw [r17]; exact st_t188 st))) (jz_if (fun g => ?_) (fun _ => jz_eq (fun _ => u253_9) (jz_end rfl ⟨_, rfl⟩)))
        refine jz_eq (fun _ => u253_13) (l253 (S := S) (D := z.natAbs) st ?_ (fun k hk => by rw [show 4 + k = 0 + 4 + k by omega]; exact b7 k hk) 255 (by decide) (Nat.lt_of_lt_of_le (bnk_lt hc b8) (by decide)))
        rw [r17, show Int32.toNatClampNeg 2 = 2 from by decide, show jm_I G 188 2 = jI (jq_sg z) from b6] at g
        refine Nat.pos_of_ne_zero (fun e => g ?_)
        rw [show z = 0 by omega]
        decide
      refine jz_eq (fun _ => u250_182 (st_t180 st)) (jz_call h253 (fun v G1 e hv => ?_))
      obtain ⟨w, rfl⟩ := hv
      obtain rfl := e
      exact jz_eq (fun _ => u250_186) (jz_end rfl ⟨_, rfl⟩)
    · exact jz_eq (fun _ => u250_176) (jz_eq (fun _ => u250_186) (jz_end rfl ⟨_, rfl⟩))
  · refine jz_eq (fun _ => u250_1_10) (jz_eq (fun _ => u250_187 (st_t180 st) (by rw [r17]; decide) (by rw [r17, st_l188 st]; decide) (by rw [r17]; decide) (by rw [r17]; exact st_t188 st)) (jz_if (fun _ => ?_) (fun _ => ?_)))
    · have h254 : jz (jE G) jz_I (fun Q => jm_c S 254 [.ref 180] G Q) := jz_eq (fun _ => en254.trans (u254_0 (st_t180 st) (by rw [r17]; decide) (by rw [r17, st_l188 st]; decide) (by rw [r17]; decide) (by rw [r17]; exact st_t188 st))) (jz_if (fun _ => jz_eq (fun _ => u254_11) (l254a (S := S) st 9 15 rfl (by decide))) (fun _ => jz_eq (fun _ => u254_9) (jz_end rfl ⟨_, rfl⟩)))
      refine jz_eq (fun _ => u250_201 (st_t180 st)) (jz_call h254 (fun v G1 e hv => ?_))
      obtain ⟨w, rfl⟩ := hv
      obtain rfl := e
      exact jz_eq (fun _ => u250_205) (jz_end rfl ⟨_, rfl⟩)
    · exact jz_eq (fun _ => u250_197) (jz_eq (fun _ => u250_205) (jz_end rfl ⟨_, rfl⟩))
end COUNT
