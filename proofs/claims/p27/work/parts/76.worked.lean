set_option maxRecDepth 20000
/-! class and reference agree on what two rows come to -/
theorem jq_rep_sq {N W m : Nat} {p : Int} {c : Nat → Nat → Int} (h1 : 3 ≤ N) (h2 : N ≤ 12) (hw : W ≤ 2) (h0 : 0 < m) (hm : m < 4611686018427387904) (hp : -256 ≤ p) (hs : -160 ≤ (Nat.log2 m : Int) + p ∧ (Nat.log2 m : Int) + p ≤ 160) (hc : ∀ n A, (n = N ∨ n = N + 1) → 0 < A → A < 2 ^ (n - 1) → c n A = jq_cmp (jq_v m p) (jq_v (jf_mant n W A) (jf_pow n W A))) : jq_rep N W c (jq_sq m p).1 (jq_sq m p).2 := by
  obtain ⟨s1, s2, s3, s4⟩ := jq_sq_lg (m := m) (p := p) h0
  refine ⟨s1, by omega, by omega, fun n A hn hA hA2 => ?_⟩
  obtain ⟨m1, m2, p1, p2⟩ := jq_row_b (n := n) (W := W) (by omega) (by omega) hw hA hA2
  rw [hc n A hn hA hA2, jq_sq_v h0 (by omega) hp (by omega) hm]
theorem jq_zn_sh (m k : Nat) {p : Int} (hp : -112 ≤ p) : jq_zn (m * 2 ^ k) p = jq_zn m (p + k) := by
  unfold jq_zn
  rw [show (p + k + 112).toNat = k + (p + 112).toNat by omega, Nat.pow_add, Nat.mul_assoc]
theorem jq_om_m {N W B : Nat} : jq_om N W B * 2 ^ jf_tz 12 (jf_mant N W B) = jf_mant N W B := jf_tz_dvd 12 (jf_mant N W B)
/-- a number of the class in units of 2 to the -112 -/
def jq_zx (x : Option (Int × Nat × Int)) : Int := match x with
  | none => 0
  | some a => a.1 * (jq_zn a.2.1 a.2.2 : Nat)
section WRK
variable {S : Option (Nat × (Nat → Int32))} {N W : Nat}
theorem jq_zr_x {A : Nat} (h1 : 3 ≤ N) (h2 : N ≤ 12) (hw : W ≤ 2) (hA : A < 2 ^ N) (hn : A ≠ 2 ^ (N - 1)) : jq_zr N W A = jq_zx (jq_val N W A) := by
  unfold jq_zr jq_val
  by_cases h0 : A = 0
  · rw [if_pos h0, if_pos h0]
    unfold jq_zx
    dsimp only
    rw [Int.zero_mul]
  · obtain ⟨b1, b2⟩ := jf_bare_pos (show 1 ≤ N by omega) hA h0 hn
    obtain ⟨m1, m2, p1, p2⟩ := jq_row_b h1 (by omega) hw b1 b2
    rw [if_neg h0, if_neg h0, if_neg hn]
    unfold jq_zx jq_op
    dsimp only
    rw [← jq_zn_sh _ _ (by omega), jq_om_m]
theorem jq_zp_x {A B : Nat} (h1 : 3 ≤ N) (h2 : N ≤ 12) (hw : W ≤ 2) (hA : A < 2 ^ N) (hn : A ≠ 2 ^ (N - 1)) (hB : B < 2 ^ N) (hnB : B ≠ 2 ^ (N - 1)) : jq_zp N W A B = jq_zx (jq_mul (jq_val N W A) (jq_val N W B)) := by
  unfold jq_zp
  by_cases h0 : A = 0 ∨ B = 0
  · rw [if_pos h0]
    rcases h0 with h | h
    · have e : jq_val N W A = some (0, 0, 0) := if_pos h
      rw [e]
      unfold jq_val
      rw [if_neg hnB]
      split <;> (unfold jq_mul jq_zx; dsimp only; rw [Int.zero_mul, Int.zero_mul])
    · have e : jq_val N W B = some (0, 0, 0) := if_pos h
      rw [e]
      unfold jq_val
      rw [if_neg hn]
      split <;> (unfold jq_mul jq_zx; dsimp only; rw [Int.mul_zero, Int.zero_mul])
  · have ha : A ≠ 0 := fun h => h0 (Or.inl h)
    have hb0 : B ≠ 0 := fun h => h0 (Or.inr h)
    obtain ⟨b1, b2⟩ := jf_bare_pos (show 1 ≤ N by omega) hA ha hn
    obtain ⟨m1, m2, p1, p2⟩ := jq_row_b h1 (by omega) hw b1 b2
    obtain ⟨b3, b4⟩ := jf_bare_pos (show 1 ≤ N by omega) hB hb0 hnB
    obtain ⟨m3, m4, p3, p4⟩ := jq_row_b h1 (by omega) hw b3 b4
    rw [if_neg h0]
    unfold jq_val
    rw [if_neg ha, if_neg hn, if_neg hb0, if_neg hnB]
    unfold jq_mul jq_zx jq_op
    dsimp only
    have e : jf_pow N W (jf_bare N A) + (jf_tz 12 (jf_mant N W (jf_bare N A)) : Nat) + (jf_pow N W (jf_bare N B) + (jf_tz 12 (jf_mant N W (jf_bare N B)) : Nat)) = jf_pow N W (jf_bare N A) + jf_pow N W (jf_bare N B) + ((jf_tz 12 (jf_mant N W (jf_bare N A)) + jf_tz 12 (jf_mant N W (jf_bare N B)) : Nat) : Int) := by omega
    rw [e, ← jq_zn_sh _ _ (by omega), Nat.pow_add]
    have e2 : jq_om N W (jf_bare N A) * jq_om N W (jf_bare N B) * (2 ^ jf_tz 12 (jf_mant N W (jf_bare N A)) * 2 ^ jf_tz 12 (jf_mant N W (jf_bare N B))) = jf_mant N W (jf_bare N A) * jf_mant N W (jf_bare N B) := by
      have e3 := jq_om_m (N := N) (W := W) (B := jf_bare N A)
      have e4 := jq_om_m (N := N) (W := W) (B := jf_bare N B)
      conv => rhs; rw [← e3, ← e4]
      ac_rfl
    rw [e2]
theorem jq_sg_mul {s : Int} {n : Nat} (hs : s = -1 ∨ s = 0 ∨ s = 1) (hn : s ≠ 0 → 0 < n) : jq_sg (s * n) = s := by
  unfold jq_sg
  rcases hs with rfl | rfl | rfl
  · have := hn (by decide)
    rw [if_pos (by omega)]
  · rw [Int.zero_mul]; rfl
  · have := hn (by decide)
    rw [if_neg (by omega), if_neg (by omega)]
theorem jq_zn_pos {m : Nat} {p : Int} (h : 0 < m) : 0 < jq_zn m p := Nat.mul_pos h (Nat.two_pow_pos _)
theorem jq_add_x {a b : Int × Nat × Int} (h1 : 3 ≤ N) (h2 : N ≤ 12) (hw : W ≤ 2) (ba : jq_b 24 89 112 (some a)) (bb : jq_b 24 89 112 (some b)) : ∃ m p, jq_add (some a) (some b) = some (jq_sg (jq_zx (some a) + jq_zx (some b)), m, p) ∧ (jq_zx (some a) + jq_zx (some b) ≠ 0 → jq_rep N W (fun n R => jq_cmp (jq_zx (some a) + jq_zx (some b)).natAbs (jq_zn (jf_mant n W R) (jf_pow n W R))) (jq_sq m p).1 (jq_sq m p).2) := by
  have hok := jq_add_ok ba bb
  have one : ∀ c : Int × Nat × Int, jq_b 24 89 112 (some c) → jq_sg (c.1 * (jq_zn c.2.1 c.2.2 : Nat)) = c.1 ∧ (c.1 * (jq_zn c.2.1 c.2.2 : Nat) ≠ 0 → jq_rep N W (fun n R => jq_cmp (c.1 * (jq_zn c.2.1 c.2.2 : Nat)).natAbs (jq_zn (jf_mant n W R) (jf_pow n W R))) (jq_sq c.2.1 c.2.2).1 (jq_sq c.2.1 c.2.2).2) := by
    intro c hc
    obtain ⟨s, m, p⟩ := c
    obtain ⟨x1, x2, x3, x4, x5⟩ := hc
    dsimp only at *
    have hpos : s ≠ 0 → 0 < m := fun h => by
      rcases Nat.eq_zero_or_pos m with g | g
      · exact absurd (x2.mpr g) h
      · exact g
    refine ⟨jq_sg_mul x1 (fun h => jq_zn_pos (hpos h)), fun hne => ?_⟩
    have hs0 : s ≠ 0 := fun h => hne (by rw [h, Int.zero_mul])
    have x6 := x5 hs0
    refine jq_rep_sq h1 h2 hw (hpos hs0) (by omega) (by omega) (by omega) (fun n R hn hR hR2 => ?_)
    obtain ⟨m1, m2, p1, p2⟩ := jq_row_b (n := n) (W := W) (by omega) (by omega) hw hR hR2
    have e : (s * (jq_zn m p : Nat) : Int).natAbs = jq_zn m p := by rcases x1 with rfl | rfl | rfl <;> omega
    rw [e, ← jq_cmp_mul (k := 2 ^ 144) (Nat.two_pow_pos _), jq_zn_v (by omega), jq_zn_v (by omega)]
  have ha0 : a.1 ≠ 0 → 0 < a.2.1 := fun h => by
    rcases Nat.eq_zero_or_pos a.2.1 with g | g
    · exact absurd (ba.2.1.mpr g) h
    · exact g
  have hb0 : b.1 ≠ 0 → 0 < b.2.1 := fun h => by
    rcases Nat.eq_zero_or_pos b.2.1 with g | g
    · exact absurd (bb.2.1.mpr g) h
    · exact g
  unfold jq_zx
  dsimp only
  by_cases h0 : a.1 = 0
  · obtain ⟨o1, o2⟩ := one b bb
    refine ⟨b.2.1, b.2.2, ?_, ?_⟩
    · rw [h0, Int.zero_mul, Int.zero_add, o1]
      unfold jq_add
      dsimp only
      rw [if_pos h0]
    · rw [h0, Int.zero_mul, Int.zero_add]
      exact o2
  · by_cases h3 : b.1 = 0
    · obtain ⟨o1, o2⟩ := one a ba
      refine ⟨a.2.1, a.2.2, ?_, ?_⟩
      · rw [h3, Int.zero_mul, Int.add_zero, o1]
        unfold jq_add
        dsimp only
        rw [if_neg h0, if_pos h3]
      · rw [h3, Int.zero_mul, Int.add_zero]
        exact o2
    · -- two that are not 0
      have two : ∀ (x y : Int × Nat × Int), jq_b 24 89 112 (some x) → jq_b 24 89 112 (some y) → x.1 ≠ 0 → y.1 ≠ 0 → (Nat.log2 y.2.1 : Int) + y.2.2 ≤ Nat.log2 x.2.1 + x.2.2 → ∃ m p, some (jq_addh x y) = some (jq_sg (x.1 * (jq_zn x.2.1 x.2.2 : Nat) + y.1 * (jq_zn y.2.1 y.2.2 : Nat)), m, p) ∧ (x.1 * (jq_zn x.2.1 x.2.2 : Nat) + y.1 * (jq_zn y.2.1 y.2.2 : Nat) ≠ 0 → jq_rep N W (fun n R => jq_cmp (x.1 * (jq_zn x.2.1 x.2.2 : Nat) + y.1 * (jq_zn y.2.1 y.2.2 : Nat)).natAbs (jq_zn (jf_mant n W R) (jf_pow n W R))) (jq_sq m p).1 (jq_sq m p).2) := by
        intro x y bx bz nx ny hs
        have hk := jq_addh_ok bx bz nx ny hs
        obtain ⟨s, m, p⟩ := x
        obtain ⟨s', m', p'⟩ := y
        obtain ⟨x1, x2, x3, x4, x5⟩ := bx
        obtain ⟨y1, y2, y3, y4, y5⟩ := bz
        dsimp only at *
        have m0 : 0 < m := by
          rcases Nat.eq_zero_or_pos m with g | g
          · exact absurd (x2.mpr g) nx
          · exact g
        have m0' : 0 < m' := by
          rcases Nat.eq_zero_or_pos m' with g | g
          · exact absurd (y2.mpr g) ny
          · exact g
        obtain ⟨v1, v2⟩ := jq_addh_v (s := s) (s' := s') (by omega) (by omega) m0 m0' x3 y3 (by omega) (by omega) hs
        refine ⟨(jq_addh (s, m, p) (s', m', p')).2.1, (jq_addh (s, m, p) (s', m', p')).2.2, ?_, fun hne => ?_⟩
        · rw [← v1]
        · obtain ⟨k1, k2, k3, k4, k5, k6⟩ := hk
          have hsn : (jq_addh (s, m, p) (s', m', p')).1 ≠ 0 := by
            rw [v1]
            unfold jq_sg
            split
            · decide
            · first | decide | (rw [if_neg hne]; decide)
          have k7 := k6 hsn
          have hMp : 0 < (jq_addh (s, m, p) (s', m', p')).2.1 := by
            rcases Nat.eq_zero_or_pos (jq_addh (s, m, p) (s', m', p')).2.1 with g | g
            · exact absurd (k2.mpr g) hsn
            · exact g
          refine jq_rep_sq h1 h2 hw hMp k3 (by omega) k7 (fun n R hn hR hR2 => ?_)
          obtain ⟨m1, m2, p1, p2⟩ := jq_row_b (n := n) (W := W) (by omega) (by omega) hw hR hR2
          exact v2 _ _ (by omega) (by omega) (by omega)
      by_cases hs : (Nat.log2 b.2.1 : Int) + b.2.2 ≤ Nat.log2 a.2.1 + a.2.2
      · obtain ⟨m, p, e1, e2⟩ := two a b ba bb h0 h3 hs
        refine ⟨m, p, ?_, e2⟩
        rw [← e1]
        unfold jq_add
        dsimp only
        rw [if_neg h0, if_neg h3, if_pos hs]
      · obtain ⟨m, p, e1, e2⟩ := two b a bb ba h3 h0 (by omega)
        rw [Int.add_comm] at e1 e2
        refine ⟨m, p, ?_, e2⟩
        rw [← e1]
        unfold jq_add
        dsimp only
        rw [if_neg h0, if_neg h3, if_neg hs]
theorem jq_val_some {A : Nat} (hn : A ≠ 2 ^ (N - 1)) : ∃ a, jq_val N W A = some a := by
  unfold jq_val
  split
  · exact ⟨_, rfl⟩
  · exact ⟨_, rfl⟩
theorem jq_zx_ng (x : Option (Int × Nat × Int)) : jq_zx (jq_ng x) = -1 * jq_zx x := by
  cases x with
  | none => rfl
  | some a =>
    unfold jq_ng jq_zx
    dsimp only
    rw [Int.neg_mul, Int.neg_mul, Int.one_mul]
theorem jq_zx_b {x : Option (Int × Nat × Int)} (h : jq_b 24 89 112 x) : (jq_zx x).natAbs < 2 ^ 248 := by
  cases x with
  | none => decide
  | some a =>
    obtain ⟨h1, h2, h3, h4, h5⟩ := h
    have := jq_zn_b (m := a.2.1) (p := a.2.2) h3 (by omega)
    unfold jq_zx
    dsimp only
    rw [Int.natAbs_mul, Int.natAbs_natCast]
    rcases h1 with h | h | h <;> rw [h]
    · rw [show (-1 : Int).natAbs = 1 from rfl, Nat.one_mul]; exact this
    · rw [show (0 : Int).natAbs = 0 from rfl, Nat.zero_mul]; decide
    · rw [show (1 : Int).natAbs = 1 from rfl, Nat.one_mul]; exact this
/-- what a sum comes to, once its worth is in the digits -/
theorem r208 {x y : Option (Int × Nat × Int)} {z : Int} {H : jm_H} (st : jm_st H) (h1 : 3 ≤ N) (h2 : N ≤ 12) (hw : W ≤ 2) (hx : x ≠ none) (hy : y ≠ none) (bx : jq_b 24 89 112 x) (bz : jq_b 24 89 112 y) (ez : z = jq_zx x + jq_zx y) (hz : jq_sm H z) : ∃ H1, jq_fm H H1 ∧ jm_I H1 180 58 = jI (jq_rnd N W (jq_add x y)).2 ∧ ∀ Q, jm_c S 208 [.ref 180, .int (nI N), .int (nI W)] H Q = Q (some (.int (nI (jq_rnd N W (jq_add x y)).1))) H1 := by
  obtain ⟨a, rfl⟩ : ∃ a, x = some a := by
    cases x with
    | none => exact absurd rfl hx
    | some a => exact ⟨a, rfl⟩
  obtain ⟨b, rfl⟩ : ∃ b, y = some b := by
    cases y with
    | none => exact absurd rfl hy
    | some b => exact ⟨b, rfl⟩
  obtain ⟨m, p, e1, e2⟩ := jq_add_x h1 h2 hw bx bz
  rw [← ez] at e1 e2
  rw [e1]
  by_cases h0 : z = 0
  · subst h0
    refine ⟨jm_pI H 180 58 0, jq_fm_I (by decide), ?_, fun Q => ?_⟩
    · rw [jm_I_pI, if_pos ⟨rfl, rfl⟩]
      rfl
    · rw [c208z st hz]
      rfl
  · exact c208 st h1 h2 hw hz h0 (e2 h0)
theorem jq_op2_3 (x y : Option (Int × Nat × Int)) : jq_op2 3 x y = jq_div x y := rfl
theorem c209_nil {A B : Nat} {x5 : Int32} {H : jm_H} (h1 : 3 ≤ N) (h2 : N ≤ 12) (hA : A < 2 ^ N) (hB : B < 2 ^ N) (hn : A = 2 ^ (N - 1) ∨ B = 2 ^ (N - 1) ∨ (x5 = 3 ∧ B = 0)) : ∀ Q, jm_c S 209 [.ref 180, .int (nI N), .int (nI W), .int (nI A), .int (nI B), .int x5] H Q = Q (some (.int (nI (2 ^ (N - 1))))) H := by
  intro Q
  have hp := p2_12 h2
  have e28 : jm_w S 6 209 28 [.ref 180, .int (nI N), .int (nI W), .int (nI A), .int (nI B), .int x5, .null, .null, .null, .null] [] H Q = Q (some (.int (nI (2 ^ (N - 1))))) H := by
    rw [u209_28, c191 (by omega) (by omega)]
    simp only [Option.toList_some, List.append_nil]
    rw [u209_32]
  rw [en209, u209_0, c204 (by omega) (by omega) (by omega)]
  simp only [Option.toList_some, List.append_nil]
  rw [u209_5]
  by_cases ha : A = 2 ^ (N - 1)
  · rw [if_pos ha, if_pos i1_0, e28]
  · rw [if_neg ha, if_neg (by decide), u209_8, c204 (by omega) (by omega) (by omega)]
    simp only [Option.toList_some, List.append_nil]
    rw [u209_14]
    by_cases hb : B = 2 ^ (N - 1)
    · rw [if_pos hb, if_pos i1_0, e28]
    · obtain ⟨rfl, rfl⟩ : x5 = 3 ∧ B = 0 := by
        rcases hn with h | h | h
        · exact absurd h ha
        · exact absurd h hb
        · exact h
      rw [if_neg hb, if_neg (by decide), u209_17, if_neg (by decide), u209_23, if_neg (by decide), e28]
theorem c209 {A B : Nat} {H : jm_H} (st : jm_st H) (h1 : 3 ≤ N) (h2 : N ≤ 12) (hw : W ≤ 2) (hA : A < 2 ^ N) (hB : B < 2 ^ N) (what : Nat) (h4 : what < 4) : ∃ H1, jq_fm H H1 ∧ (jq_op2 what (jq_val N W A) (jq_val N W B) ≠ none → jm_I H1 180 58 = jI (jq_rnd N W (jq_op2 what (jq_val N W A) (jq_val N W B))).2) ∧ ∀ Q, jm_c S 209 [.ref 180, .int (nI N), .int (nI W), .int (nI A), .int (nI B), .int (nI what)] H Q = Q (some (.int (nI (jq_rnd N W (jq_op2 what (jq_val N W A) (jq_val N W B))).1))) H1 := by
  have hp := p2_12 h2
  have w3 : (nI what = (3 : Int32)) = (what = 3) := propext (nI_eqI (b := 3) (by omega) (by decide))
  have hnone : ∀ y, jq_op2 what none y = none := by
    intro y
    match what, h4 with
    | 0, _ => rfl
    | 1, _ => rfl
    | 2, _ => rfl
    | 3, _ => rfl
  have hnone2 : ∀ x, jq_op2 what x none = none := by
    intro x
    match what, h4 with
    | 0, _ => cases x <;> rfl
    | 1, _ => cases x <;> rfl
    | 2, _ => cases x <;> rfl
    | 3, _ => cases x <;> rfl
  have hnil : ∀ {M : Nat}, M = 2 ^ (N - 1) → jq_val N W M = none := by
    rintro M rfl
    unfold jq_val
    rw [if_neg (by have := p2_pos (N - 1); omega), if_pos rfl]
  by_cases hn : A = 2 ^ (N - 1) ∨ B = 2 ^ (N - 1) ∨ (nI what = 3 ∧ B = 0)
  · have hv : jq_op2 what (jq_val N W A) (jq_val N W B) = none := by
      rcases hn with h | h | ⟨h, h'⟩
      · rw [hnil h]; exact hnone _
      · rw [hnil h]; exact hnone2 _
      · rw [w3] at h
        subst h
        have e : jq_val N W B = some (0, 0, 0) := if_pos h'
        rw [e]
        cases jq_val N W A <;> rfl
    refine ⟨H, jq_fm_refl H, fun h => absurd hv h, fun Q => ?_⟩
    rw [hv, c209_nil h1 h2 hA hB hn]
    rfl
  · have hnA : A ≠ 2 ^ (N - 1) := fun h => hn (Or.inl h)
    have hnB : B ≠ 2 ^ (N - 1) := fun h => hn (Or.inr (Or.inl h))
    have hd3 : what = 3 → B ≠ 0 := fun h h' => hn (Or.inr (Or.inr ⟨by rw [w3]; exact h, h'⟩))
    have z0 : (nI A = (0 : Int32)) = (A = 0) := propext (nI_eqI (b := 0) (by omega) (by decide))
    have z1 : (nI B = (0 : Int32)) = (B = 0) := propext (nI_eqI (b := 0) (by omega) (by decide))
    have bA := jq_b_mono (jq_val_b h1 h2 hw hA) (show 11 ≤ 24 by decide) (show 44 ≤ 89 by decide) (show 56 ≤ 112 by decide)
    have bB := jq_b_mono (jq_val_b h1 h2 hw hB) (show 11 ≤ 24 by decide) (show 44 ≤ 89 by decide) (show 56 ≤ 112 by decide)
    have start : ∀ Q, jm_c S 209 [.ref 180, .int (nI N), .int (nI W), .int (nI A), .int (nI B), .int (nI what)] H Q = if 2 ≤ what then jm_w S 6 209 76 [.ref 180, .int (nI N), .int (nI W), .int (nI A), .int (nI B), .int (nI what), .null, .null, .null, .null] [] H Q else jm_w S 6 209 39 [.ref 180, .int (nI N), .int (nI W), .int (nI A), .int (nI B), .int (nI what), .null, .null, .null, .null] [] H Q := by
      intro Q
      have w2 : ((2 : Int32) ≤ nI what) = (2 ≤ what) := propext (nI_leI (a := 2) (by decide) (by omega))
      have e33 : jm_w S 6 209 33 [.ref 180, .int (nI N), .int (nI W), .int (nI A), .int (nI B), .int (nI what), .null, .null, .null, .null] [] H Q = if 2 ≤ what then jm_w S 6 209 76 [.ref 180, .int (nI N), .int (nI W), .int (nI A), .int (nI B), .int (nI what), .null, .null, .null, .null] [] H Q else jm_w S 6 209 39 [.ref 180, .int (nI N), .int (nI W), .int (nI A), .int (nI B), .int (nI what), .null, .null, .null, .null] [] H Q := by
        rw [u209_33, ite_eqP w2]
      rw [en209, u209_0, c204 (by omega) (by omega) (by omega), if_neg hnA]
      simp only [Option.toList_some, List.append_nil]
      rw [u209_5, if_neg (by decide), u209_8, c204 (by omega) (by omega) (by omega), if_neg hnB]
      simp only [Option.toList_some, List.append_nil]
      rw [u209_14, if_neg (by decide), u209_17, ite_eqP (congrArg Not w3)]
      by_cases h3 : what = 3
      · rw [if_neg (fun g => g h3), u209_23, ite_eqP (congrArg Not z1), if_pos (hd3 h3), e33]
      · rw [if_pos h3, e33]
    by_cases hw2 : 2 ≤ what
    · -- products, quotients
      by_cases hz : A = 0 ∨ B = 0
      · have hv : ∃ m p, jq_op2 what (jq_val N W A) (jq_val N W B) = some (0, m, p) := by
          obtain ⟨a, ea⟩ := jq_val_some (W := W) hnA
          obtain ⟨b, eb⟩ := jq_val_some (W := W) hnB
          match what, h4, hw2 with
          | 2, _, _ =>
            rcases hz with h | h
            · have e : jq_val N W A = some (0, 0, 0) := if_pos h
              rw [e, eb]
              refine ⟨0 * b.2.1, 0 + b.2.2, ?_⟩
              show some (0 * b.1, 0 * b.2.1, 0 + b.2.2) = some (0, 0 * b.2.1, 0 + b.2.2)
              rw [Int.zero_mul]
            · have e : jq_val N W B = some (0, 0, 0) := if_pos h
              rw [e, ea]
              refine ⟨a.2.1 * 0, a.2.2 + 0, ?_⟩
              show some (a.1 * 0, a.2.1 * 0, a.2.2 + 0) = some (0, a.2.1 * 0, a.2.2 + 0)
              rw [Int.mul_zero]
          | 3, _, _ =>
            have h : A = 0 := by
              rcases hz with h | h
              · exact h
              · exact absurd h (hd3 rfl)
            have e : jq_val N W A = some (0, 0, 0) := if_pos h
            have hb0 : ¬ b.2.1 = 0 := by
              have hb' := hd3 rfl
              obtain ⟨b3, b4⟩ := jf_bare_pos (show 1 ≤ N by omega) hB hb' hnB
              have ho := jq_om_pos h1 h2 hw b3 b4
              unfold jq_val at eb
              rw [if_neg hb', if_neg hnB] at eb
              cases eb
              show ¬ jq_om N W (jf_bare N B) = 0
              omega
            rw [e, eb]
            refine ⟨jq_st (0 * 2 ^ 40) b.2.1, 0 - b.2.2 - 40, ?_⟩
            rw [jq_op2_3]
            unfold jq_div
            dsimp only
            rw [if_neg hb0, Int.zero_mul]
        obtain ⟨m, p, hv⟩ := hv
        rw [hv]
        refine ⟨jm_pI H 180 58 0, jq_fm_I (by decide), fun _ => ?_, fun Q => ?_⟩
        · rw [jm_I_pI, if_pos ⟨rfl, rfl⟩]
          rfl
        · rw [start, if_pos hw2, u209_76 (st_t180 st), ite_eqP z0, u209_85, ite_eqP (congrArg Not z1)]
          by_cases ha : A = 0
          · rw [if_pos ha, u209_90]; rfl
          · rw [if_neg ha, if_neg (by omega), u209_90]; rfl
      · have ha : A ≠ 0 := fun h => hz (Or.inl h)
        have hb0 : B ≠ 0 := fun h => hz (Or.inr h)
        obtain ⟨b1, b2⟩ := jf_bare_pos (show 1 ≤ N by omega) hA ha hnA
        obtain ⟨m1, m2, p1, p2⟩ := jq_row_b h1 (by omega) hw b1 b2
        obtain ⟨b3, b4⟩ := jf_bare_pos (show 1 ≤ N by omega) hB hb0 hnB
        obtain ⟨m3, m4, p3, p4⟩ := jq_row_b h1 (by omega) hw b3 b4
        obtain ⟨o1, o2, o3, o4, o5, o6⟩ := jq_om_pos h1 h2 hw b1 b2
        obtain ⟨r1, r2, r3, r4, r5, r6⟩ := jq_om_pos h1 h2 hw b3 b4
        have hN11 : 2 ^ (N - 1) ≤ 2 ^ 11 := p2_le (by omega)
        have eva : jq_val N W A = some (if A < 2 ^ (N - 1) then 1 else -1, jq_om N W (jf_bare N A), jq_op N W (jf_bare N A)) := by unfold jq_val; rw [if_neg ha, if_neg hnA]
        have evb : jq_val N W B = some (if B < 2 ^ (N - 1) then 1 else -1, jq_om N W (jf_bare N B), jq_op N W (jf_bare N B)) := by unfold jq_val; rw [if_neg hb0, if_neg hnB]
        have sa := jf_sgn_1 (N := N) ha hnA
        have sb := jf_sgn_1 (N := N) hb0 hnB
        have hits : jf_sgn N A * jf_sgn N B = -1 ∨ jf_sgn N A * jf_sgn N B = 1 := by
          rw [sa, sb]
          split <;> split <;> decide
        let G : jm_H := jf_open 180 N W (jf_bare N B) (jf_open 180 N W (jf_bare N A) (jm_pI H 180 58 0))
        have f0 : jq_fm H (jm_pI H 180 58 0) := jq_fm_I (by decide)
        have fo := jq_fm_open (H := jm_pI H 180 58 0) N W (jf_bare N A)
        have fo2 := jq_fm_open (H := jf_open 180 N W (jf_bare N A) (jm_pI H 180 58 0)) N W (jf_bare N B)
        have fG : jq_fm H G := jq_fm_trans f0 (jq_fm_trans fo fo2)
        have st0 := jq_fm_st f0 st
        have sto := jq_fm_st fo st0
        have stG : jm_st G := jq_fm_st fG st
        have go : ∀ Q, jm_c S 209 [.ref 180, .int (nI N), .int (nI W), .int (nI A), .int (nI B), .int (nI what)] H Q = jm_w S 6 209 134 [.ref 180, .int (nI N), .int (nI W), .int (nI A), .int (nI B), .int (nI what), .int (jI (jf_sgn N A * jf_sgn N B)), .long (lN (jf_mant N W (jf_bare N A))), .null, .int (jI (jf_pow N W (jf_bare N A)))] [] G Q := by
          intro Q
          rw [start, if_pos hw2, u209_76 (st_t180 st), ite_eqP z0, if_neg ha, u209_85, ite_eqP (congrArg Not z1), if_pos hb0, u209_92, c206 (by omega) h2 hA]
          simp only [Option.toList_some, List.append_nil]
          rw [u209_97, c206 (by omega) h2 hB]
          simp only [Option.toList_some, List.cons_append, List.nil_append]
          rw [u209_103 (st_t180 st0), jI_mul, c193 (st_t180 st0) h1 (by omega) hw hA]
          simp only [Option.toList_none, List.nil_append]
          rw [u209_113 (st_t180 sto), jf_open_m, jf_open_p, nI_l (by omega), c193 (st_t180 sto) h1 (by omega) hw hB]
          simp only [Option.toList_none, List.nil_append]
          rfl
        match what, h4, hw2 with
        | 2, _, _ =>
          have hv : jq_op2 2 (jq_val N W A) (jq_val N W B) = some (jf_sgn N A * jf_sgn N B, jq_om N W (jf_bare N A) * jq_om N W (jf_bare N B), jq_op N W (jf_bare N A) + jq_op N W (jf_bare N B)) := by
            rw [eva, evb, sa, sb]
            rfl
          have hmm : jf_mant N W (jf_bare N A) * jf_mant N W (jf_bare N B) < 2 ^ 24 := by
            have := Nat.mul_lt_mul'' m2 m4
            omega
          have hoo : jq_om N W (jf_bare N A) * jq_om N W (jf_bare N B) < 2 ^ 24 := by
            have := Nat.mul_lt_mul'' (show jq_om N W (jf_bare N A) < 4096 by omega) (show jq_om N W (jf_bare N B) < 4096 by omega)
            omega
          have hl := lg_mul o1 r1
          have evv : jq_v (jf_mant N W (jf_bare N A) * jf_mant N W (jf_bare N B)) (jf_pow N W (jf_bare N A) + jf_pow N W (jf_bare N B)) = jq_v (jq_om N W (jf_bare N A) * jq_om N W (jf_bare N B)) (jq_op N W (jf_bare N A) + jq_op N W (jf_bare N B)) := by
            unfold jq_op
            have e : jf_pow N W (jf_bare N A) + (jf_tz 12 (jf_mant N W (jf_bare N A)) : Nat) + (jf_pow N W (jf_bare N B) + (jf_tz 12 (jf_mant N W (jf_bare N B)) : Nat)) = jf_pow N W (jf_bare N A) + jf_pow N W (jf_bare N B) + ((jf_tz 12 (jf_mant N W (jf_bare N A)) + jf_tz 12 (jf_mant N W (jf_bare N B)) : Nat) : Int) := by omega
            rw [e, ← jq_v_sh _ _ (by omega), Nat.pow_add]
            have e3 := jq_om_m (N := N) (W := W) (B := jf_bare N A)
            have e4 := jq_om_m (N := N) (W := W) (B := jf_bare N B)
            have e2 : jq_om N W (jf_bare N A) * jq_om N W (jf_bare N B) * (2 ^ jf_tz 12 (jf_mant N W (jf_bare N A)) * 2 ^ jf_tz 12 (jf_mant N W (jf_bare N B))) = jf_mant N W (jf_bare N A) * jf_mant N W (jf_bare N B) := by
              conv => rhs; rw [← e3, ← e4]
              ac_rfl
            rw [e2]
          obtain ⟨H1, f1, l1, q1⟩ := c189 (S := S) (m := jq_om N W (jf_bare N A) * jq_om N W (jf_bare N B)) (p := jq_op N W (jf_bare N A) + jq_op N W (jf_bare N B)) stG h1 h2 hw (om := jf_mant N W (jf_bare N A) * jf_mant N W (jf_bare N B)) (op := jf_pow N W (jf_bare N A) + jf_pow N W (jf_bare N B)) (um := 1) (uq := 0) (Nat.mul_pos m1 m3) (by omega) (by decide) (by decide) (by omega) (by decide) hits (jq_rep_sq h1 h2 hw (Nat.mul_pos o1 r1) (by omega) (by omega) (by omega) (fun n R hn hR hR2 => by
            rw [Nat.one_mul, Int.zero_add, evv]))
          refine ⟨H1, jq_fm_trans fG f1, fun _ => by rw [hv]; exact l1, fun Q => ?_⟩
          rw [go, hv, u209_134, if_neg (by decide), u209_140 (st_t180 stG)]
          have em : jm_I G 180 48 = nI (jf_mant N W (jf_bare N B)) := jf_open_m _ _ _
          have ep : jm_I G 180 49 = jI (jf_pow N W (jf_bare N B)) := jf_open_p _ _ _
          rw [em, ep, nI_l (by omega), lN_mul, jI_add]
          show jm_c S 189 [.ref 180, .int (nI N), .int (nI W), .long (lN _), .int (jI _), .long (lN 1), .int (jI 0), .int (jI _)] G _ = _
          rw [q1]
          simp only [Option.toList_some, List.append_nil]
          rw [u209_165, u209_189]
        | 3, _, _ =>
          have ho : ¬ jq_om N W (jf_bare N B) = 0 := by omega
          have hv : jq_op2 3 (jq_val N W A) (jq_val N W B) = some (jf_sgn N A * jf_sgn N B, jq_st (jq_om N W (jf_bare N A) * 2 ^ 40) (jq_om N W (jf_bare N B)), jq_op N W (jf_bare N A) - jq_op N W (jf_bare N B) - 40) := by
            rw [eva, evb, sa, sb]
            rw [jq_op2_3]
            unfold jq_div
            dsimp only
            rw [if_neg ho]
          have hok := jq_div_ok (x := jq_val N W A) (y := jq_val N W B) (jq_b_mono (jq_val_b h1 h2 hw hA) (by decide) (by decide) (by decide)) (jq_b_mono (jq_val_b h1 h2 hw hB) (by decide) (by decide) (by decide))
          rw [← jq_op2_3, hv] at hok
          obtain ⟨k1, k2, k3, k4, k5, k6⟩ := hok
          dsimp only at k1 k2 k3 k4 k5 k6
          have k7 := k6 (by omega)
          have hX : jq_om N W (jf_bare N B) * 8192 ≤ jq_om N W (jf_bare N A) * 2 ^ 40 := by omega
          have hXp : 0 < jq_om N W (jf_bare N A) * 2 ^ 40 := by omega
          obtain ⟨H1, f1, l1, q1⟩ := c189 (S := S) (m := jq_st (jq_om N W (jf_bare N A) * 2 ^ 40) (jq_om N W (jf_bare N B))) (p := jq_op N W (jf_bare N A) - jq_op N W (jf_bare N B) - 40) stG h1 h2 hw (om := jf_mant N W (jf_bare N A)) (op := jf_pow N W (jf_bare N A)) (um := jf_mant N W (jf_bare N B)) (uq := jf_pow N W (jf_bare N B)) m1 (by omega) m3 (by omega) (by omega) (by omega) hits (jq_rep_sq h1 h2 hw (jq_st_pos hXp) k3 (by omega) k7 (fun n R hn hR hR2 => by
            obtain ⟨n1, n2, v1, v2⟩ := jq_row_b (n := n) (W := W) (by omega) (by omega) hw hR hR2
            rw [jq_qt r1 hX (by omega) (by omega) (by omega), jq_v_sh _ _ (by omega), show jq_op N W (jf_bare N A) - jq_op N W (jf_bare N B) - 40 + ((40 : Nat) : Int) = jq_op N W (jf_bare N A) - jq_op N W (jf_bare N B) by omega]
            -- both by the other's power
            have e1 := jq_om_v h1 h2 hw b1 b2
            have e3 := jq_om_m (N := N) (W := W) (B := jf_bare N B)
            have e2 : jq_v (jf_mant N W (jf_bare N B) * jf_mant n W R) (jf_pow N W (jf_bare N B) + jf_pow n W R) = jq_v (jq_om N W (jf_bare N B) * jf_mant n W R) (jq_op N W (jf_bare N B) + jf_pow n W R) := by
              unfold jq_op
              rw [show jf_pow N W (jf_bare N B) + (jf_tz 12 (jf_mant N W (jf_bare N B)) : Nat) + jf_pow n W R = jf_pow N W (jf_bare N B) + jf_pow n W R + ((jf_tz 12 (jf_mant N W (jf_bare N B)) : Nat) : Int) by omega, ← jq_v_sh _ _ (by omega), Nat.mul_right_comm, e3]
            rw [← e1, e2]
            have e4 := jq_v_add (jq_om N W (jf_bare N A)) (jq_om N W (jf_bare N B) * jf_mant n W R) (p := jq_op N W (jf_bare N A) - jq_op N W (jf_bare N B)) (q := jf_pow n W R) (jq_op N W (jf_bare N B) + 100).toNat (by omega) (by omega)
            have e5 := jq_v_add (jq_om N W (jf_bare N A)) (jq_om N W (jf_bare N B) * jf_mant n W R) (p := jq_op N W (jf_bare N A)) (q := jq_op N W (jf_bare N B) + jf_pow n W R) 100 (by omega) (by omega)
            rw [← e4, ← e5]
            congr 2 <;> omega))
          refine ⟨H1, jq_fm_trans fG f1, fun _ => by rw [hv]; exact l1, fun Q => ?_⟩
          rw [go, hv, u209_134, if_pos (by decide), u209_168 (st_t180 stG)]
          have em : jm_I G 180 48 = nI (jf_mant N W (jf_bare N B)) := jf_open_m _ _ _
          have ep : jm_I G 180 49 = jI (jf_pow N W (jf_bare N B)) := jf_open_p _ _ _
          rw [em, ep, nI_l (by omega), q1]
          simp only [Option.toList_some, List.append_nil]
          rw [u209_189]
    · -- sums, differences
      obtain ⟨b, hb, ey⟩ : ∃ b : Int, (b = -1 ∨ b = 1) ∧ jq_op2 what (jq_val N W A) (jq_val N W B) = jq_add (jq_val N W A) (if b = 1 then jq_val N W B else jq_ng (jq_val N W B)) ∧ (b = 1 ↔ what = 0) := by
        match what, hw2 with
        | 0, _ => exact ⟨1, Or.inr rfl, rfl, by decide⟩
        | 1, _ => exact ⟨-1, Or.inl rfl, rfl, by decide⟩
        | n + 2, h => exact absurd (by omega) h
      obtain ⟨G0, z0', f0, q0⟩ := c203 (S := S) st
      have st0 := jq_fm_st f0 st
      have zb1 : ((0 : Int)).natAbs < 2 ^ 255 := by decide
      obtain ⟨G1, zz1, f1, q1⟩ := c210 (S := S) (b := 1) st0 h1 h2 hw hA hnA z0' (Or.inr rfl) zb1
      have st1 := jq_fm_st f1 st0
      have ezA := jq_zr_x h1 h2 hw hA hnA
      have ezB := jq_zr_x h1 h2 hw hB hnB
      have bz1 := jq_zx_b bA
      rw [Int.zero_add, Int.one_mul, ezA] at zz1
      obtain ⟨G2, zz2, f2, q2⟩ := c210 (S := S) (b := b) st1 h1 h2 hw hB hnB zz1 hb (by omega)
      have st2 := jq_fm_st f2 st1
      rw [ezB] at zz2
      have hy : (if b = 1 then jq_val N W B else jq_ng (jq_val N W B)) ≠ none := by
        obtain ⟨y, e⟩ := jq_val_some (W := W) hnB
        rw [e]
        split
        · intro h; cases h
        · intro h; cases h
      have bY : jq_b 24 89 112 (if b = 1 then jq_val N W B else jq_ng (jq_val N W B)) := by
        split
        · exact bB
        · exact jq_ng_b bB
      have ez : jq_zx (jq_val N W A) + b * jq_zx (jq_val N W B) = jq_zx (jq_val N W A) + jq_zx (if b = 1 then jq_val N W B else jq_ng (jq_val N W B)) := by
        congr 1
        rcases hb with rfl | rfl
        · rw [if_neg (by decide), jq_zx_ng]
        · rw [if_pos rfl, Int.one_mul]
      obtain ⟨H1, f3, l3, q3⟩ := r208 (S := S) (N := N) (W := W) st2 h1 h2 hw (by obtain ⟨a, e⟩ := jq_val_some (W := W) hnA; rw [e]; intro h; cases h) hy bA bY ez zz2
      rw [ey.1]
      refine ⟨H1, jq_fm_trans f0 (jq_fm_trans f1 (jq_fm_trans f2 f3)), fun _ => l3, fun Q => ?_⟩
      have wz : (nI what = (0 : Int32)) = (what = 0) := propext (nI_eqI (b := 0) (by omega) (by decide))
      rw [start, if_neg hw2, u209_39 (st_t180 st), q0]
      simp only [Option.toList_none, List.nil_append]
      rw [u209_43 (st_t180 st0)]
      show jm_c S 210 [.ref 180, .int (nI N), .int (nI W), .int (nI A), .int (jI 1)] G0 _ = _
      rw [q1]
      simp only [Option.toList_none, List.nil_append]
      rw [u209_51, ite_eqP (congrArg Not wz)]
      have h66 : jm_w S 6 209 66 [.ref 180, .int (nI N), .int (nI W), .int (nI A), .int (nI B), .int (nI what), .null, .null, .null, .null] [.int (jI b), .int (nI B), .int (nI W), .int (nI N), .ref 180] G1 Q = Q (some (.int (nI (jq_rnd N W (jq_add (jq_val N W A) (if b = 1 then jq_val N W B else jq_ng (jq_val N W B)))).1))) H1 := by
        rw [u209_66 (st_t180 st1), q2]
        simp only [Option.toList_none, List.nil_append]
        rw [u209_69 (st_t180 st2), q3]
        simp only [Option.toList_some, List.append_nil]
        rw [u209_75]
      by_cases h0 : what = 0
      · have hb1 : b = 1 := ey.2.mpr h0
        rw [if_neg (fun g => g h0), u209_61]
        rw [hb1] at h66 ⊢
        exact h66
      · have hb1 : b = -1 := by
          rcases hb with h | h
          · exact h
          · exact absurd (ey.2.mp h) h0
        rw [if_pos h0, u209_65]
        rw [hb1] at h66 ⊢
        exact h66
end WRK
