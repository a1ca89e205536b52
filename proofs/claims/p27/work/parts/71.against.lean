set_option maxRecDepth 20000
/-! the reference: two numbers held against each other; a row against what is to be rounded -/
def jq_len (m : Nat) : Nat := if m = 0 then 0 else Nat.log2 m + 1
theorem jq_len_lt {m k : Nat} : m / 2 ^ k = 0 ↔ jq_len m ≤ k := by
  have hp := Nat.two_pow_pos k
  unfold jq_len
  by_cases h : m = 0
  · rw [if_pos h, h, Nat.zero_div]
    exact ⟨fun _ => Nat.zero_le _, fun _ => rfl⟩
  · rw [if_neg h, Nat.div_eq_zero_iff]
    have := Nat.log2_lt (n := m) (k := k) h
    omega
/-- frames of the reference: its scratch numbers, its two rows of digits -/
abbrev jq_MM (q : Nat) : Prop := q = 180 ∨ q = 205 ∨ q = 206
def jq_fm (H H' : jm_H) : Prop := jf_fr jq_MM H H' ∧ ∀ k, k < 43 → jm_I H' 180 k = jm_I H 180 k
theorem jq_fm_refl (H : jm_H) : jq_fm H H := ⟨jf_fr_refl H, fun _ _ => rfl⟩
theorem jq_fm_trans {H H' H'' : jm_H} (h : jq_fm H H') (h' : jq_fm H' H'') : jq_fm H H'' := ⟨jf_fr_trans h.1 h'.1, fun k hk => (h'.2 k hk).trans (h.2 k hk)⟩
theorem jq_fm_I {H : jm_H} {k : Nat} {v : Int32} (hk : 43 ≤ k) : jq_fm H (jm_pI H 180 k v) := ⟨jf_fr_pI (Or.inl rfl), fun j hj => by rw [jm_I_pI, if_neg (by omega)]⟩
theorem jq_fm_L {H : jm_H} {k : Nat} {v : Int64} : jq_fm H (jm_pL H 180 k v) := ⟨jf_fr_pL (Or.inl rfl), fun j hj => rfl⟩
theorem jq_fm_D {H : jm_H} {q k : Nat} {v : Int32} (hq : q = 205 ∨ q = 206) : jq_fm H (jm_pI H q k v) := ⟨jf_fr_pI (Or.inr hq), fun j hj => by rw [jm_I_pI, if_neg (by omega)]⟩
theorem jq_fm_st {H H' : jm_H} (h : jq_fm H H') (hs : jm_st H) : jm_st H' := jf_fr_st h.1 hs
theorem jq_fm_open {H : jm_H} (N W A : Nat) : jq_fm H (jf_open 180 N W A H) := by
  unfold jf_open
  exact jq_fm_trans (jq_fm_trans (jq_fm_trans (jq_fm_trans (jq_fm_trans (jq_fm_trans (jq_fm_I (by decide)) (jq_fm_I (by decide))) (jq_fm_I (by decide))) (jq_fm_I (by decide))) (jq_fm_I (by decide))) (jq_fm_I (by decide))) (jq_fm_I (by decide))
theorem jf_open_m {H : jm_H} (N W A : Nat) : jm_I (jf_open 180 N W A H) 180 48 = nI (jf_mant N W A) := by
  unfold jf_open
  simp only [jm_I_pI, true_and, Nat.reduceEqDiff, if_true, if_false, and_false]
theorem jf_open_p {H : jm_H} (N W A : Nat) : jm_I (jf_open 180 N W A H) 180 49 = jI (jf_pow N W A) := by
  unfold jf_open
  simp only [jm_I_pI, true_and, if_true]
theorem jf_open_o {H : jm_H} (N W A k : Nat) (h : 50 ≤ k) : jm_I (jf_open 180 N W A H) 180 k = jm_I H 180 k := by
  unfold jf_open
  simp only [jm_I_pI, true_and, show ¬ k = 49 from by omega, show ¬ k = 48 from by omega, show ¬ k = 47 from by omega, show ¬ k = 46 from by omega, show ¬ k = 45 from by omega, show ¬ k = 44 from by omega, show ¬ k = 43 from by omega, if_false]
theorem jf_open_L {H : jm_H} (N W A r k : Nat) : jm_L (jf_open 180 N W A H) r k = jm_L H r k := rfl
theorem jf_open_I {H : jm_H} (N W A r k : Nat) (h : r ≠ 180) : jm_I (jf_open 180 N W A H) r k = jm_I H r k := by
  unfold jf_open
  simp only [jm_I_pI, h, false_and, if_false]
theorem jf_bare_id {N A : Nat} (hA : A < 2 ^ (N - 1)) : jf_bare N A = A := by
  unfold jf_bare
  rw [if_pos (by omega)]
section AGN
variable {S : Option (Nat × (Nat → Int32))} {H : jm_H}
theorem s197 {m : Nat} (hm : m < 9223372036854775808) {Q : Option Value → jm_H → Prop} : ∀ d k : Nat, k + d = jq_len m → k ≤ 63 → jm_w S 1 197 2 [.long (lN m), .null, .int (nI k)] [] H Q = Q (some (.int (nI (jq_len m)))) H
  | 0, k, h, hk => by
    have z := (jq_len_lt (m := m) (k := k)).mpr (by omega)
    rw [u197_2, lN_shr hm (by omega), z, if_pos (by decide), u197_16, show k = jq_len m by omega]
  | d + 1, k, h, hk => by
    have z := mt (jq_len_lt (m := m) (k := k)).mp (by omega)
    have hl : jq_len m ≤ 63 := jq_len_lt.mp (Nat.div_eq_of_lt hm)
    have hd : m / 2 ^ k ≤ m := Nat.div_le_self _ _
    rw [u197_2, lN_shr hm (by omega), if_neg (by rw [lg_cmp_le, lN_0L, lN_leS (Nat.lt_of_le_of_lt hd hm) (by decide)]; exact fun g => z (Nat.le_zero.mp g)), u197_10, nI_succK, s197 hm d (k + 1) (by omega) (by omega)]
theorem c197 {m : Nat} (hm : m < 9223372036854775808) {Q : Option Value → jm_H → Prop} : jm_c S 197 [.long (lN m)] H Q = Q (some (.int (nI (jq_len m)))) H := by
  rw [en197, u197_0]
  exact s197 hm (jq_len m) 0 (by omega) (by omega)
theorem c196 {a b : Nat} {p q : Int} (ha : 0 < a) (hb : 0 < b) (ha2 : a < 4611686018427387904) (hb2 : b < 4611686018427387904) (hp : -256 ≤ p ∧ p ≤ 1000) (hq : -256 ≤ q ∧ q ≤ 1000) {Q : Option Value → jm_H → Prop} : jm_c S 196 [.long (lN a), .int (jI p), .long (lN b), .int (jI q)] H Q = Q (some (.int (jI (jq_cmp (jq_v a p) (jq_v b q))))) H := by
  have la := lg_le (k := 62) ha ha2
  have lb := lg_le (k := 62) hb hb2
  have ea : jq_len a = Nat.log2 a + 1 := by unfold jq_len; rw [if_neg (by omega)]
  have eb : jq_len b = Nat.log2 b + 1 := by unfold jq_len; rw [if_neg (by omega)]
  have e1 : nI (jq_len a) + jI p = jI ((Nat.log2 a : Int) + 1 + p) := by rw [ea, jI_n, jI_add]; rfl
  have e2 : nI (jq_len b) + jI q = jI ((Nat.log2 b : Int) + 1 + q) := by rw [eb, jI_n, jI_add]; rfl
  have zq : (jI ((Nat.log2 a : Int) + 1 + p) = jI ((Nat.log2 b : Int) + 1 + q)) = ((Nat.log2 a : Int) + p = Nat.log2 b + q) := by
    apply propext
    rw [jI_eq ⟨by omega, by omega⟩ ⟨by omega, by omega⟩]
    omega
  have zl : (jI ((Nat.log2 b : Int) + 1 + q) ≤ jI ((Nat.log2 a : Int) + 1 + p)) = ((Nat.log2 b : Int) + q ≤ Nat.log2 a + p) := by
    apply propext
    rw [jI_le ⟨by omega, by omega⟩ ⟨by omega, by omega⟩]
    omega
  have zp : (jI p ≤ jI q) = (p ≤ q) := propext (jI_le ⟨by omega, by omega⟩ ⟨by omega, by omega⟩)
  have zp2 : (jI q ≤ jI p) = (q ≤ p) := propext (jI_le ⟨by omega, by omega⟩ ⟨by omega, by omega⟩)
  rw [en196, u196_0, c197 (by omega)]
  simp only [Option.toList_some, List.append_nil]
  rw [u196_4, e1, c197 (by omega)]
  simp only [Option.toList_some, List.append_nil]
  rw [u196_12, e2]
  simp only [zq]
  by_cases h : (Nat.log2 a : Int) + p = Nat.log2 b + q
  · rw [if_pos h, u196_37]
    simp only [zp]
    -- both told in units of the less power
    have fin : ∀ (x y : Nat) (r : Int), x < 9223372036854775808 → y < 9223372036854775808 → jq_v a p = jq_v x r → jq_v b q = jq_v y r → jm_w S 2 196 71 [.long (lN a), .null, .int (jI p), .long (lN b), .null, .int (jI q), .int (jI ((Nat.log2 a : Int) + 1 + p)), .int (jI ((Nat.log2 b : Int) + 1 + q)), .long (lN x), .null, .null, .null] [.long (lN y)] H Q = Q (some (.int (jI (jq_cmp (jq_v a p) (jq_v b q))))) H := by
      intro x y r hx hy ex ey
      rw [ex, ey, jq_v_cmp, u196_71]
      simp only [lg_cmp_ge, lN_leS hy hx]
      by_cases h1 : y ≤ x
      · rw [if_pos h1, u196_85]
        simp only [lg_cmp_le, lN_leS hx hy]
        by_cases h2 : x ≤ y
        · have : x = y := by omega
          rw [if_pos h2, u196_97, u196_98, this, jq_cmp_eq]
          rfl
        · rw [if_neg h2, u196_93, u196_98, jq_cmp_gt (by omega)]
          rfl
      · rw [if_neg h1, u196_81, u196_98, jq_cmp_lt (by omega)]
        rfl
    have a1 : a < 2 ^ (Nat.log2 a + 1) := Nat.lt_log2_self
    have b1 : b < 2 ^ (Nat.log2 b + 1) := Nat.lt_log2_self
    by_cases h1 : p ≤ q
    · rw [if_pos h1, u196_52, u196_53]
      simp only [zp2]
      by_cases h2 : q ≤ p
      · have : p = q := by omega
        rw [if_pos h2, u196_70]
        exact fin a b p (by omega) (by omega) rfl (by rw [this])
      · obtain ⟨k, hk, ek⟩ : ∃ k : Nat, k ≤ 62 ∧ q = p + k := ⟨(q - p).toNat, by omega, by omega⟩
        have hbk : b * 2 ^ k < 2 ^ 62 := by
          have := (Nat.mul_lt_mul_right (Nat.two_pow_pos k)).mpr b1
          rw [← Nat.pow_add] at this
          exact Nat.lt_of_lt_of_le this (p2_le (by omega))
        rw [if_neg h2, u196_61, jI_sub, show q - p = (k : Int) by omega, ← jI_n, lN_shl _ (by omega)]
        exact fin a (b * 2 ^ k) p (by omega) (by omega) rfl (by rw [jq_v_sh _ _ hp.1, ek])
    · obtain ⟨k, hk, ek⟩ : ∃ k : Nat, k ≤ 62 ∧ p = q + k := ⟨(p - q).toNat, by omega, by omega⟩
      have hak : a * 2 ^ k < 2 ^ 62 := by
        have := (Nat.mul_lt_mul_right (Nat.two_pow_pos k)).mpr a1
        rw [← Nat.pow_add] at this
        exact Nat.lt_of_lt_of_le this (p2_le (by omega))
      rw [if_neg h1, u196_43, jI_sub, show p - q = (k : Int) by omega, ← jI_n, lN_shl _ (by omega), u196_53]
      simp only [zp2]
      rw [if_pos (by omega), u196_70]
      exact fin (a * 2 ^ k) b q (by omega) (by omega) (by rw [jq_v_sh _ _ hq.1, ek]) rfl
  · rw [if_neg h, u196_24]
    simp only [zl]
    by_cases h1 : (Nat.log2 b : Int) + q ≤ Nat.log2 a + p
    · rw [if_pos h1, u196_35, u196_36, jq_cmp_gt (jq_v_lt hb ha hq.1 hp.1 (by omega))]
      rfl
    · rw [if_neg h1, u196_31, u196_36, jq_cmp_lt (jq_v_lt ha hb hp.1 hq.1 (by omega))]
      rfl
/-- what is asked of the reference's numbers while it rounds a quotient, a root -/
def jq_IQ (H0 : jm_H) (om : Nat) (op : Int) (um : Nat) (uq : Int) (H : jm_H) : Prop := jm_st H ∧ jq_fm H0 H ∧ jm_I H 180 53 = 1 ∧ jm_L H 180 54 = lN om ∧ jm_I H 180 55 = jI op ∧ jm_L H 180 56 = lN um ∧ jm_I H 180 57 = jI uq
def jq_IR (H0 : jm_H) (om : Nat) (op : Int) (H : jm_H) : Prop := jm_st H ∧ jq_fm H0 H ∧ jm_I H 180 53 = 2 ∧ jm_L H 180 54 = lN om ∧ jm_I H 180 55 = jI op
theorem jq_row_b {n W A : Nat} (h1 : 3 ≤ n) (h2 : n ≤ 13) (hw : W ≤ 2) (hA : 0 < A) (hA2 : A < 2 ^ (n - 1)) : 0 < jf_mant n W A ∧ jf_mant n W A < 4096 ∧ -44 ≤ jf_pow n W A ∧ jf_pow n W A ≤ 44 := by
  obtain ⟨_, hm, hp, _⟩ := jq_row h1 h2 hw hA hA2
  have : 2 ^ (n - 1) ≤ 2 ^ 12 := p2_le (by omega)
  exact ⟨hm.1, by omega, hp.1, hp.2⟩
theorem a192Q {H0 : jm_H} {om um N W : Nat} {op uq : Int} (h1 : 3 ≤ N) (h2 : N ≤ 12) (hw : W ≤ 2) (hom : 0 < om) (hom2 : om < 4611686018427387904) (hum : 0 < um) (hum2 : um < 2 ^ 24) (hop : -200 ≤ op ∧ op ≤ 200) (huq : -200 ≤ uq ∧ uq ≤ 200) : jq_ag S (jq_IQ H0 om op um uq) (fun n A => jq_cmp (jq_v om op) (jq_v (um * jf_mant n W A) (uq + jf_pow n W A))) N W := by
  intro H n A hI hn hA hA2
  obtain ⟨st, fm, i53, l54, i55, l56, i57⟩ := hI
  have hn1 : 3 ≤ n ∧ n ≤ 13 := by omega
  have hb := jf_bare_id hA2
  have hh := p2_half (show 1 ≤ n by omega)
  obtain ⟨m1, m2, p1, p2⟩ := jq_row_b hn1.1 hn1.2 hw hA hA2
  have fo := jq_fm_open (H := H) n W A
  refine ⟨jf_open 180 n W A H, ⟨jq_fm_st fo st, jq_fm_trans fm fo, by rw [jf_open_o _ _ _ _ (by decide)]; exact i53, l54, by rw [jf_open_o _ _ _ _ (by decide)]; exact i55, l56, by rw [jf_open_o _ _ _ _ (by decide)]; exact i57⟩, jf_open_o _ _ _ _ (by decide), fun Q => ?_⟩
  have t := st_t180 (jq_fm_st fo st)
  have hmul : um * jf_mant n W A < 4611686018427387904 := by
    have := Nat.mul_lt_mul'' hum2 m2
    omega
  rw [en192, u192_0 (st_t180 st), c193 (st_t180 st) hn1.1 hn1.2 hw (by omega), hb]
  simp only [Option.toList_none, List.nil_append]
  rw [u192_7 t, jf_open_o _ _ _ _ (by decide), i53, if_neg (by decide), u192_15 t, jf_open_L, jf_open_L, jf_open_m, jf_open_p, jf_open_o _ _ _ 55 (by decide), jf_open_o _ _ _ 57 (by decide), l54, i55, l56, i57, nI_l (by omega), lN_mul, jI_add, c196 hom (Nat.mul_pos hum m1) hom2 hmul (by omega) (by omega)]
  simp only [Option.toList_some, List.append_nil]
  rw [u192_45]
theorem a192R {H0 : jm_H} {om N W : Nat} {op : Int} (h1 : 3 ≤ N) (h2 : N ≤ 12) (hw : W ≤ 2) (hom : 0 < om) (hom2 : om < 4611686018427387904) (hop : -200 ≤ op ∧ op ≤ 200) : jq_ag S (jq_IR H0 om op) (fun n A => jq_cmp (jq_v om op) (jq_v (jf_mant n W A * jf_mant n W A) (2 * jf_pow n W A))) N W := by
  intro H n A hI hn hA hA2
  obtain ⟨st, fm, i53, l54, i55⟩ := hI
  have hn1 : 3 ≤ n ∧ n ≤ 13 := by omega
  have hb := jf_bare_id hA2
  have hh := p2_half (show 1 ≤ n by omega)
  obtain ⟨m1, m2, p1, p2⟩ := jq_row_b hn1.1 hn1.2 hw hA hA2
  have fo := jq_fm_open (H := H) n W A
  refine ⟨jf_open 180 n W A H, ⟨jq_fm_st fo st, jq_fm_trans fm fo, by rw [jf_open_o _ _ _ _ (by decide)]; exact i53, l54, by rw [jf_open_o _ _ _ _ (by decide)]; exact i55⟩, jf_open_o _ _ _ _ (by decide), fun Q => ?_⟩
  have t := st_t180 (jq_fm_st fo st)
  have hmul : jf_mant n W A * jf_mant n W A < 4611686018427387904 := by
    have := Nat.mul_lt_mul'' m2 m2
    omega
  rw [en192, u192_0 (st_t180 st), c193 (st_t180 st) hn1.1 hn1.2 hw (by omega), hb]
  simp only [Option.toList_none, List.nil_append]
  rw [u192_7 t, jf_open_o _ _ _ _ (by decide), i53, if_pos (by decide), u192_46 t, jf_open_o _ _ _ _ (by decide), i53, if_neg (by decide), u192_54 t, jf_open_L, jf_open_m, jf_open_p, jf_open_o _ _ _ 55 (by decide), l54, i55, nI_l (by omega), lN_mul, show (2 : Int32) = jI 2 from by decide, jI_mul, c196 hom (Nat.mul_pos m1 m1) hom2 hmul (by omega) (by omega)]
  simp only [Option.toList_some, List.append_nil]
  rw [u192_82]
end AGN
