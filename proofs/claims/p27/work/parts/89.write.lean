set_option maxRecDepth 20000
/-! decimals: class and reference write the same signs -/
/-- so far written: by the class, by the reference -/
def jq_wc (H : jm_H) (L : List Nat) : Prop := jm_I H 25 1 = nI L.length ∧ ∀ i c, L[i]? = some c → jm_I H 26 i = nI c
def jq_wm (H : jm_H) (L : List Nat) : Prop := jm_I H 180 60 = nI L.length ∧ ∀ i c, L[i]? = some c → jm_I H 207 i = nI c
abbrev jq_PW (q : Nat) : Prop := q = 25 ∨ q = 26
def jq_fw (H H' : jm_H) : Prop := jf_fr (fun q => q = 180 ∨ q = 207) H H' ∧ ∀ k, k ≠ 60 → jm_I H' 180 k = jm_I H 180 k
theorem jq_fw_refl (H : jm_H) : jq_fw H H := ⟨jf_fr_refl H, fun _ _ => rfl⟩
theorem jq_fw_trans {H H' H'' : jm_H} (h : jq_fw H H') (h' : jq_fw H' H'') : jq_fw H H'' := ⟨jf_fr_trans h.1 h'.1, fun k hk => (h'.2 k hk).trans (h.2 k hk)⟩
theorem jq_fw_st {H H' : jm_H} (h : jq_fw H H') (hs : jm_st H) : jm_st H' := jf_fr_st h.1 hs
theorem jq_fw_n {H H' : jm_H} (h : jq_fw H H') : jq_fn H H' := ⟨jf_fr_mono h.1 (fun q hq => by rcases hq with h | h <;> omega), fun k hk => h.2 k (by omega)⟩
theorem jq_byte : ∀ c, c < 128 → Int8.toInt32 (Int32.toInt8 (Int8.toInt32 (Int32.toInt8 (nI c)))) = nI c := by decide +kernel
theorem jq_app {P : Nat → Int32} {L : List Nat} {c : Nat} (h : ∀ i d, L[i]? = some d → P i = nI d) : ∀ i d, (L ++ [c])[i]? = some d → (if i = L.length then nI c else P i) = nI d := by
  intro i d hd
  by_cases hi : i = L.length
  · rw [if_pos hi]
    rw [List.getElem?_append_right (by omega), hi, Nat.sub_self] at hd
    cases hd
    rfl
  · rw [if_neg hi]
    by_cases h2 : i < L.length
    · rw [List.getElem?_append_left h2] at hd
      exact h i d hd
    · rw [List.getElem?_eq_none (by rw [List.length_append]; show L.length + 1 ≤ i; omega)] at hd
      cases hd
section WRITE
theorem c120 {L : List Nat} {c : Nat} {H : jm_H} (st : jm_st H) (hL : jq_wc H L) (hl : L.length < 80) (hc : c < 128) : ∃ H1, jq_wc H1 (L ++ [c]) ∧ jf_fr jq_PW H H1 ∧ ∀ Q, jm_c none 120 [.ref 25, .int (nI c)] H Q = Q none H1 := by
  have r := st_r25_0 st
  have t25 := st_t25 st
  refine ⟨jm_pI (jm_pI H 26 L.length (nI c)) 25 1 (nI (L.length + 1)), ⟨?_, ?_⟩, jf_fr_trans (jf_fr_pI (Or.inr rfl)) (jf_fr_pI (Or.inl rfl)), fun Q => ?_⟩
  · rw [jm_I_pI, if_pos ⟨rfl, rfl⟩, List.length_append]
    rfl
  · intro i d hd
    have := jq_app (P := fun i => jm_I H 26 i) hL.2 i d hd
    rw [jm_I_pI, if_neg (by omega), jm_I_pI]
    by_cases hi : i = L.length
    · rw [if_pos hi] at this
      rw [if_pos ⟨rfl, hi⟩]
      exact this
    · rw [if_neg hi] at this
      rw [if_neg (fun g => hi g.2)]
      exact this
  · have hin : ¬ (nI L.length < 0 ∨ 80 ≤ (nI L.length).toNatClampNeg) := nI_inK hl (by decide)
    rw [en120, u120_0 t25 (by rw [r]; decide) (by rw [r]; decide) (by rw [r, st_t26 st]; decide), r, st_l26 st, hL.1, if_neg (show ¬ Int32.ofNat 80 ≤ nI L.length from fun g => by have := (nI_leI (a := 80) (by decide) (by omega)).mp g; omega), u120_12 t25 (by rw [r]; decide) (by rw [r, st_l26 st, hL.1]; exact hin) (by rw [r]; exact st_t26 st), r, hL.1, nI_cl (by omega), jq_byte c hc, jm_I_pI, if_neg (by omega), hL.1, nI_succK, u120_33]
theorem c239 {L : List Nat} {c : Nat} {H : jm_H} (st : jm_st H) (hL : jq_wm H L) (hl : L.length < 100) : ∃ H1, jq_wm H1 (L ++ [c]) ∧ jq_fw H H1 ∧ ∀ Q, jm_c none 239 [.ref 180, .int (nI c)] H Q = Q none H1 := by
  have r := st_r180_59 st
  have t := st_t180 st
  refine ⟨jm_pI (jm_pI H 207 L.length (nI c)) 180 60 (nI (L.length + 1)), ⟨?_, ?_⟩, ⟨jf_fr_trans (jf_fr_pI (Or.inr rfl)) (jf_fr_pI (Or.inl rfl)), fun k hk => by rw [jm_I_pI, if_neg (by omega), jm_I_pI, if_neg (by omega)]⟩, fun Q => ?_⟩
  · rw [jm_I_pI, if_pos ⟨rfl, rfl⟩, List.length_append]
    rfl
  · intro i d hd
    have := jq_app (P := fun i => jm_I H 207 i) hL.2 i d hd
    rw [jm_I_pI, if_neg (by omega), jm_I_pI]
    by_cases hi : i = L.length
    · rw [if_pos hi] at this
      rw [if_pos ⟨rfl, hi⟩]
      exact this
    · rw [if_neg hi] at this
      rw [if_neg (fun g => hi g.2)]
      exact this
  · have hin : ¬ (nI L.length < 0 ∨ 100 ≤ (nI L.length).toNatClampNeg) := nI_inK hl (by decide)
    rw [en239, u239_0 t (by rw [r]; decide) (by rw [r, st_l207 st, hL.1]; exact hin) (by rw [r]; exact st_t207 st), r, hL.1, nI_cl (by omega), jm_I_pI, if_neg (by omega), hL.1, nI_succK]
/-- the unit's turns -/
theorem s121a {V : Nat} (hV : V < 1000000000000000000) : ∀ (f i u : Nat), i + f = 17 → u ≤ 10 ^ i → ∃ x5, ∀ (H : jm_H) (Q : Option Value → jm_H → Prop), jm_w none 2 121 5 [.ref 25, .long (lN V), .null, .long (lN u), .null, .int (nI i)] [] H Q = jm_w none 2 121 34 [.ref 25, .long (lN V), .null, .long (lN (jq_u10 f u V)), .null, .int x5] [] H Q
  | 0, i, u, hi, hu => by
    refine ⟨nI i, fun H Q => ?_⟩
    have : i = 17 := by omega
    subst this
    rw [u121_5, if_pos (by decide)]
    rfl
  | f + 1, i, u, hi, hu => by
    have hu17 : 10 ^ i ≤ 10 ^ 17 := Nat.pow_le_pow_right (by decide) (by omega)
    have hc : (0 < lg_cmp (lN u * (10 : Int64)) (lN V)) = (V < u * 10) := by
      rw [show (10 : Int64) = lN 10 from rfl, lN_mul, lg_cmp_gt]
      exact propext (lN_ltS (by omega) (by omega))
    have h17 : ¬ (17 : Int32) ≤ nI i := fun g => by have := (nI_leI (a := 17) (by decide) (by omega)).mp g; omega
    rw [jq_u10]
    by_cases h : u * 10 ≤ V
    · obtain ⟨x5, q⟩ := s121a hV f (i + 1) (u * 10) (by omega) (by rw [Nat.pow_succ]; omega)
      refine ⟨x5, fun H Q => ?_⟩
      rw [u121_5, if_neg h17, u121_12, ite_eqP hc, if_neg (by omega), if_pos h, u121_22, show (10 : Int64) = lN 10 from rfl, lN_mul, nI_succK, q]
    · refine ⟨nI i, fun H Q => ?_⟩
      rw [u121_5, if_neg h17, u121_12, ite_eqP hc, if_pos (by omega), if_neg h]
theorem jq_u10_b {V : Nat} : ∀ (f u : Nat), 0 < u → 0 < jq_u10 f u V ∧ jq_u10 f u V ≤ u * 10 ^ f
  | 0, u, hu => by
    rw [jq_u10]
    exact ⟨hu, by rw [Nat.pow_zero]; omega⟩
  | f + 1, u, hu => by
    rw [jq_u10]
    split
    · have := jq_u10_b (V := V) f (u * 10) (by omega)
      rw [Nat.pow_succ, Nat.mul_comm (10 ^ f), ← Nat.mul_assoc]
      exact this
    · exact ⟨hu, Nat.le_mul_of_pos_right u (Nat.pow_pos (by decide))⟩
theorem jq_dg10 {V u : Nat} (hV : V < 9000000000000000000) (hu : 0 < u) (hu2 : u < 9000000000000000000) : Int64.toInt32 ((lN V / lN u) - (lN V / lN u) / (10 : Int64) * (10 : Int64)) = nI (V / u % 10) := by
  have hq : V / u ≤ V := Nat.div_le_self _ _
  rw [pk_lDiv (by omega) hu (by omega), show (10 : Int64) = lN 10 from rfl, pk_lRem (by omega) (by decide) (by decide), lN_i]
theorem s121b {V : Nat} {x5 : Int32} (hV : V < 1000000000000000000) : ∀ (f u : Nat) (L : List Nat) (H : jm_H), u < 10 ^ f → f ≤ 18 → jm_st H → jq_wc H L → L.length + (jq_dgs f u V).length ≤ 80 → ∃ H1, jq_wc H1 (L ++ jq_dgs f u V) ∧ jf_fr jq_PW H H1 ∧ ∀ Q, jm_w none 2 121 34 [.ref 25, .long (lN V), .null, .long (lN u), .null, .int x5] [] H Q = Q none H1
  | 0, u, L, H, hu, hf, st, hL, hl => by
    have : u = 0 := by
      rw [Nat.pow_zero] at hu
      omega
    subst this
    refine ⟨H, by rw [jq_dgs, List.append_nil]; exact hL, jf_fr_refl H, fun Q => ?_⟩
    rw [u121_34, if_pos (by decide), u121_64]
  | f + 1, u, L, H, hu, hf, st, hL, hl => by
    have hu18 : 10 ^ (f + 1) ≤ 10 ^ 18 := Nat.pow_le_pow_right (by decide) hf
    by_cases h0 : u = 0
    · subst h0
      refine ⟨H, by rw [jq_dgs, if_pos rfl, List.append_nil]; exact hL, jf_fr_refl H, fun Q => ?_⟩
      rw [u121_34, if_pos (by decide), u121_64]
    · have hun : ¬ lN u = (0 : Int64) := fun g => h0 ((lN_eqS (b := 0) (by omega) (by decide)).mp g)
      have ed : Int64.toInt32 ((lN V / lN u) - (lN V / lN u) / (10 : Int64) * (10 : Int64)) + (48 : Int32) = nI (48 + V / u % 10) := by
        rw [jq_dg10 (by omega) (by omega) (by omega), show (48 : Int32) = nI 48 from rfl, nI_addN, Nat.add_comm]
      rw [jq_dgs, if_neg h0] at hl ⊢
      rw [List.length_cons] at hl
      obtain ⟨G, wG, fG, qG⟩ := c120 (c := 48 + V / u % 10) st hL (by omega) (by omega)
      have stG := jf_fr_st fG st
      obtain ⟨H1, w1, f1, q1⟩ := s121b (x5 := x5) hV f (u / 10) (L ++ [48 + V / u % 10]) G (by rw [Nat.pow_succ] at hu; omega) (by omega) stG wG (by rw [List.length_append, List.length_singleton]; omega)
      refine ⟨H1, by rw [List.append_assoc] at w1; exact w1, jf_fr_trans fG f1, fun Q => ?_⟩
      have edv : lN u / (10 : Int64) = lN (u / 10) := pk_lDiv (by omega) (by decide) (by decide)
      rw [u121_34, if_neg (by rw [lg_cmp_le, lN_0L, lN_leS (by omega) (by decide)]; omega), u121_40 hun (st_t25 st), ed, qG]
      simp only [Option.toList_none, List.nil_append]
      rw [u121_55, edv]
      exact q1 Q
theorem c121 {V : Nat} {L : List Nat} {H : jm_H} (st : jm_st H) (hV : V < 100000000000000000) (hL : jq_wc H L) (hl : L.length + (jq_dgs 18 (jq_u10 17 1 V) V).length ≤ 80) : ∃ H1, jq_wc H1 (L ++ jq_dgs 18 (jq_u10 17 1 V) V) ∧ jf_fr jq_PW H H1 ∧ ∀ Q, jm_c none 121 [.ref 25, .long (lN V)] H Q = Q none H1 := by
  have hb := jq_u10_b (V := V) 17 1 (by decide)
  obtain ⟨x5, turn⟩ := s121a (V := V) (by omega) 17 0 1 (by decide) (by decide)
  obtain ⟨H1, w1, f1, q1⟩ := s121b (x5 := x5) (V := V) (by omega) 18 (jq_u10 17 1 V) L H (by omega) (by decide) st hL hl
  refine ⟨H1, w1, f1, fun Q => ?_⟩
  rw [en121, u121_0]
  show jm_w none 2 121 5 [.ref 25, .long (lN V), .null, .long (lN 1), .null, .int (nI 0)] [] H Q = _
  rw [turn, q1]
theorem s240a {V : Nat} (hV : V < 100000000000000000) {H : jm_H} {Q : Option Value → jm_H → Prop} : ∀ (f u : Nat), 0 < u → u * 10 ^ f ≤ 10 ^ 17 → V < u * 10 ^ (f + 1) → jm_w none 2 240 2 [.ref 180, .long (lN V), .null, .long (lN u), .null] [] H Q = jm_w none 2 240 21 [.ref 180, .long (lN V), .null, .long (lN (jq_u10 f u V)), .null] [] H Q
  | 0, u, hu, hu2, hv => by
    have hq : V / u ≤ V := Nat.div_le_self _ _
    have h9 : V / u ≤ 9 := Nat.le_of_lt_succ ((Nat.div_lt_iff_lt_mul hu).mpr (by rw [Nat.mul_comm]; exact hv))
    have hun : ¬ lN u = (0 : Int64) := fun g => by have := (lN_eqS (b := 0) (by omega) (by decide)).mp g; omega
    rw [u240_2 hun, pk_lDiv (by omega) hu (by omega), if_pos (by rw [lg_cmp_le, show (9 : Int64) = lN 9 from rfl, lN_leS (by omega) (by decide)]; exact h9)]
    rfl
  | f + 1, u, hu, hu2, hv => by
    have hp : 0 < 10 ^ f := Nat.pow_pos (by decide)
    have hu3 : u * 10 ≤ u * 10 ^ (f + 1) := Nat.mul_le_mul_left u (by rw [Nat.pow_succ]; omega)
    have hq : V / u ≤ V := Nat.div_le_self _ _
    have hun : ¬ lN u = (0 : Int64) := fun g => by have := (lN_eqS (b := 0) (by omega) (by decide)).mp g; omega
    have hc : (lg_cmp (lN (V / u)) (9 : Int64) ≤ 0) = ¬ (u * 10 ≤ V) := by
      rw [lg_cmp_le, show (9 : Int64) = lN 9 from rfl]
      apply propext
      rw [lN_leS (Nat.lt_of_le_of_lt hq (by omega)) (by decide)]
      have k := Nat.le_div_iff_mul_le (x := 10) (y := V) hu
      rw [Nat.mul_comm u, ← k]
      omega
    rw [u240_2 hun, pk_lDiv (by omega) hu (by omega), ite_eqP hc, jq_u10]
    by_cases h : u * 10 ≤ V
    · rw [if_neg (fun g => g h), if_pos h, u240_12, show (10 : Int64) = lN 10 from rfl, lN_mul]
      refine s240a hV f (u * 10) (by omega) ?_ ?_
      · rw [Nat.mul_assoc, Nat.mul_comm 10, ← Nat.pow_succ]
        exact hu2
      · rw [Nat.mul_assoc, Nat.mul_comm 10, ← Nat.pow_succ]
        exact hv
    · rw [if_pos h, if_neg h]
theorem s240b {V : Nat} (hV : V < 1000000000000000000) : ∀ (f u : Nat) (L : List Nat) (H : jm_H), u < 10 ^ f → f ≤ 18 → jm_st H → jq_wm H L → L.length + (jq_dgs f u V).length ≤ 80 → ∃ H1, jq_wm H1 (L ++ jq_dgs f u V) ∧ jq_fw H H1 ∧ ∀ Q, jm_w none 2 240 21 [.ref 180, .long (lN V), .null, .long (lN u), .null] [] H Q = Q none H1
  | 0, u, L, H, hu, hf, st, hL, hl => by
    have : u = 0 := by
      rw [Nat.pow_zero] at hu
      omega
    subst this
    refine ⟨H, by rw [jq_dgs, List.append_nil]; exact hL, jq_fw_refl H, fun Q => ?_⟩
    rw [u240_21, if_pos (by decide), u240_51]
  | f + 1, u, L, H, hu, hf, st, hL, hl => by
    have hu18 : 10 ^ (f + 1) ≤ 10 ^ 18 := Nat.pow_le_pow_right (by decide) hf
    by_cases h0 : u = 0
    · subst h0
      refine ⟨H, by rw [jq_dgs, if_pos rfl, List.append_nil]; exact hL, jq_fw_refl H, fun Q => ?_⟩
      rw [u240_21, if_pos (by decide), u240_51]
    · have hun : ¬ lN u = (0 : Int64) := fun g => h0 ((lN_eqS (b := 0) (by omega) (by decide)).mp g)
      have ed : (48 : Int32) + Int64.toInt32 ((lN V / lN u) - (lN V / lN u) / (10 : Int64) * (10 : Int64)) = nI (48 + V / u % 10) := by
        rw [jq_dg10 (by omega) (by omega) (by omega), show (48 : Int32) = nI 48 from rfl, nI_addN]
      rw [jq_dgs, if_neg h0] at hl ⊢
      rw [List.length_cons] at hl
      obtain ⟨G, wG, fG, qG⟩ := c239 (c := 48 + V / u % 10) st hL (by omega)
      have stG := jq_fw_st fG st
      obtain ⟨H1, w1, f1, q1⟩ := s240b hV f (u / 10) (L ++ [48 + V / u % 10]) G (by rw [Nat.pow_succ] at hu; omega) (by omega) stG wG (by rw [List.length_append, List.length_singleton]; omega)
      refine ⟨H1, by rw [List.append_assoc] at w1; exact w1, jq_fw_trans fG f1, fun Q => ?_⟩
      have edv : lN u / (10 : Int64) = lN (u / 10) := pk_lDiv (by omega) (by decide) (by decide)
      rw [u240_21, if_neg (by rw [lg_cmp_le, lN_0L, lN_leS (by omega) (by decide)]; omega), u240_27 hun (st_t180 st), ed, qG]
      simp only [Option.toList_none, List.nil_append]
      rw [u240_42, edv]
      exact q1 Q
theorem c240 {V : Nat} {L : List Nat} {H : jm_H} (st : jm_st H) (hV : V < 100000000000000000) (hL : jq_wm H L) (hl : L.length + (jq_dgs 18 (jq_u10 17 1 V) V).length ≤ 80) : ∃ H1, jq_wm H1 (L ++ jq_dgs 18 (jq_u10 17 1 V) V) ∧ jq_fw H H1 ∧ ∀ Q, jm_c none 240 [.ref 180, .long (lN V)] H Q = Q none H1 := by
  have hb := jq_u10_b (V := V) 17 1 (by decide)
  obtain ⟨H1, w1, f1, q1⟩ := s240b (V := V) (by omega) 18 (jq_u10 17 1 V) L H (by omega) (by decide) st hL hl
  refine ⟨H1, w1, f1, fun Q => ?_⟩
  rw [en240, u240_0]
  show jm_w none 2 240 2 [.ref 180, .long (lN V), .null, .long (lN 1), .null] [] H Q = _
  rw [s240a hV 17 1 (by decide) (by decide) (by omega), q1]
/-! behind the point -/
theorem jq_fd0 (F k : Nat) : jq_fd F k 0 = [] := by
  cases F with
  | zero => rfl
  | succ F => rw [jq_fd, if_pos rfl]
theorem jq_fd_dv {k i r : Nat} (hi : i + 1 ≤ k) (hr : r % 2 ^ i = 0) : r * 10 % 2 ^ k % 2 ^ (i + 1) = 0 := by
  rw [Nat.mod_mod_of_dvd _ (Nat.pow_dvd_pow 2 hi)]
  have h := Nat.div_add_mod r (2 ^ i)
  have : r * 10 = 2 ^ (i + 1) * (r / 2 ^ i * 5) := by
    rw [Nat.pow_succ]
    have : r = 2 ^ i * (r / 2 ^ i) := by omega
    conv => lhs; rw [this]
    rw [Nat.mul_assoc, Nat.mul_assoc]
    congr 1
    omega
  rw [this, Nat.mul_mod_right]
theorem s119 {k : Nat} (hk : k ≤ 48) {up : Int32} : ∀ (d i r F : Nat) (L : List Nat) (H : jm_H), i + d = k → r < 2 ^ k → r % 2 ^ i = 0 → d ≤ F → jm_st H → jq_wc H L → L.length + (jq_fd F k r).length ≤ 80 → ∃ H1, jq_wc H1 (L ++ jq_fd F k r) ∧ jf_fr jq_PW H H1 ∧ ∀ Q, jm_w none 3 119 117 [.ref 25, .ref 27, .int (nI k), .int up, .long (lN (2 ^ k - 1)), .null, .long (lN r), .null, .int (nI i)] [] H Q = Q none H1
  | 0, i, r, F, L, H, hi, hr, hdv, hF, st, hL, hl => by
    have : i = k := by omega
    subst this
    have h0 : r = 0 := by rw [← Nat.mod_eq_of_lt hr]; exact hdv
    subst h0
    refine ⟨H, by rw [jq_fd0, List.append_nil]; exact hL, jf_fr_refl H, fun Q => ?_⟩
    rw [u119_117, if_pos ((nI_leI (by omega) (by omega)).mpr (Nat.le_refl _)), u119_163]
  | d + 1, i, r, F, L, H, hi, hr, hdv, hF, st, hL, hl => by
    have hki : ¬ nI k ≤ nI i := fun g => by have := (nI_leI (by omega) (by omega)).mp g; omega
    have hk48 : 2 ^ k ≤ 2 ^ 48 := p2_le hk
    by_cases h0 : r = 0
    · subst h0
      refine ⟨H, by rw [jq_fd0, List.append_nil]; exact hL, jf_fr_refl H, fun Q => ?_⟩
      rw [u119_117, if_neg hki, u119_123, if_pos (by decide), u119_163]
    · obtain ⟨F', rfl⟩ : ∃ F', F = F' + 1 := ⟨F - 1, by omega⟩
      have hkp := p2_pos k
      have hdg : r * 10 / 2 ^ k < 10 := (Nat.div_lt_iff_lt_mul hkp).mpr (by omega)
      have hr2 : r * 10 % 2 ^ k < 2 ^ k := Nat.mod_lt _ hkp
      rw [jq_fd, if_neg h0] at hl ⊢
      rw [List.length_cons] at hl
      obtain ⟨G, wG, fG, qG⟩ := c120 (c := 48 + r * 10 / 2 ^ k) st hL (by omega) (by omega)
      have stG := jf_fr_st fG st
      obtain ⟨H1, w1, f1, q1⟩ := s119 hk (up := up) d (i + 1) (r * 10 % 2 ^ k) F' (L ++ [48 + r * 10 / 2 ^ k]) G (by omega) hr2 (jq_fd_dv (by omega) hdv) (by omega) stG wG (by rw [List.length_append, List.length_singleton]; omega)
      refine ⟨H1, by rw [List.append_assoc] at w1; exact w1, jf_fr_trans fG f1, fun Q => ?_⟩
      have e1 : Int64.toInt32 ((lN r * (10 : Int64)) >>> (Int32.toInt64 (nI k) &&& 63)) + (48 : Int32) = nI (48 + r * 10 / 2 ^ k) := by
        rw [show (10 : Int64) = lN 10 from rfl, lN_mul, lN_shr (by omega) (by omega), lN_i, show (48 : Int32) = nI 48 from rfl, nI_addN, Nat.add_comm]
      have e2 : (lN r * (10 : Int64)) &&& lN (2 ^ k - 1) = lN (r * 10 % 2 ^ k) := by
        rw [show (10 : Int64) = lN 10 from rfl, lN_mul, lN_and, Nat.and_two_pow_sub_one_eq_mod]
      have hrn : ¬ lN r = (0 : Int64) := fun g => h0 ((lN_eqS (b := 0) (by omega) (by decide)).mp g)
      rw [u119_117, if_neg hki, u119_123, if_neg (by rw [lg_cmp0]; exact hrn), u119_130 (st_t25 st), e1, qG]
      simp only [Option.toList_none, List.nil_append]
      rw [u119_150, e2, nI_succK]
      exact q1 Q
theorem s238 {k : Nat} (hk : k ≤ 48) {n w a : Int32} : ∀ (d i r F : Nat) (L : List Nat) (H : jm_H), i + d = k → r < 2 ^ k → r % 2 ^ i = 0 → d ≤ F → jm_st H → jq_wm H L → L.length + (jq_fd F k r).length ≤ 80 → ∃ H1, jq_wm H1 (L ++ jq_fd F k r) ∧ jq_fw H H1 ∧ ∀ Q, jm_w none 4 238 130 [.ref 180, .int n, .int w, .int a, .long (lN (2 ^ k)), .null, .long (lN r), .null] [] H Q = Q none H1
  | 0, i, r, F, L, H, hi, hr, hdv, hF, st, hL, hl => by
    have : i = k := by omega
    subst this
    have h0 : r = 0 := by rw [← Nat.mod_eq_of_lt hr]; exact hdv
    subst h0
    refine ⟨H, by rw [jq_fd0, List.append_nil]; exact hL, jq_fw_refl H, fun Q => ?_⟩
    rw [u238_130, if_pos (by decide), u238_168]
  | d + 1, i, r, F, L, H, hi, hr, hdv, hF, st, hL, hl => by
    have hk48 : 2 ^ k ≤ 2 ^ 48 := p2_le hk
    by_cases h0 : r = 0
    · subst h0
      refine ⟨H, by rw [jq_fd0, List.append_nil]; exact hL, jq_fw_refl H, fun Q => ?_⟩
      rw [u238_130, if_pos (by decide), u238_168]
    · obtain ⟨F', rfl⟩ : ∃ F', F = F' + 1 := ⟨F - 1, by omega⟩
      have hkp := p2_pos k
      have hdg : r * 10 / 2 ^ k < 10 := (Nat.div_lt_iff_lt_mul hkp).mpr (by omega)
      have hr2 : r * 10 % 2 ^ k < 2 ^ k := Nat.mod_lt _ hkp
      rw [jq_fd, if_neg h0] at hl ⊢
      rw [List.length_cons] at hl
      obtain ⟨G, wG, fG, qG⟩ := c239 (c := 48 + r * 10 / 2 ^ k) st hL (by omega)
      have stG := jq_fw_st fG st
      obtain ⟨H1, w1, f1, q1⟩ := s238 hk (n := n) (w := w) (a := a) d (i + 1) (r * 10 % 2 ^ k) F' (L ++ [48 + r * 10 / 2 ^ k]) G (by omega) hr2 (jq_fd_dv (by omega) hdv) (by omega) stG wG (by rw [List.length_append, List.length_singleton]; omega)
      refine ⟨H1, by rw [List.append_assoc] at w1; exact w1, jq_fw_trans fG f1, fun Q => ?_⟩
      have hun : ¬ lN (2 ^ k) = (0 : Int64) := fun g => by have := (lN_eqS (b := 0) (by omega) (by decide)).mp g; omega
      have e1 : (48 : Int32) + Int64.toInt32 ((lN r * (10 : Int64)) / lN (2 ^ k)) = nI (48 + r * 10 / 2 ^ k) := by
        rw [show (10 : Int64) = lN 10 from rfl, lN_mul, pk_lDiv (by omega) hkp (by omega), lN_i, show (48 : Int32) = nI 48 from rfl, nI_addN]
      have e2 : lN (r * 10) - lN (r * 10) / lN (2 ^ k) * lN (2 ^ k) = lN (r * 10 % 2 ^ k) := pk_lRem (by omega) hkp (by omega)
      rw [u238_130, if_neg (by rw [lg_cmp_le, lN_0L, lN_leS (by omega) (by decide)]; omega), u238_137 hun (st_t180 st), e1, qG]
      simp only [Option.toList_none, List.nil_append]
      rw [u238_158 hun, show (10 : Int64) = lN 10 from rfl, lN_mul, e2]
      exact q1 Q
end WRITE
