set_option maxRecDepth 20000
/-! the class: sums, products, quotients, roots of rows, rounded -/
abbrev jq_RR (q : Nat) : Prop := 11 ≤ q ∧ q ≤ 17
def jq_ng (x : Option (Int × Nat × Int)) : Option (Int × Nat × Int) := match x with
  | none => none
  | some a => some (-a.1, a.2.1, a.2.2)
def jq_op2 (what : Nat) (x y : Option (Int × Nat × Int)) : Option (Int × Nat × Int) := match what with
  | 0 => jq_add x y
  | 1 => jq_add x (jq_ng y)
  | 2 => jq_mul x y
  | _ => jq_div x y
theorem jq_ng_b {B E P : Nat} {x : Option (Int × Nat × Int)} (h : jq_b B E P x) : jq_b B E P (jq_ng x) := by
  cases x with
  | none => trivial
  | some a =>
    obtain ⟨h1, h2, h3, h4, h5⟩ := h
    exact ⟨by show -a.1 = -1 ∨ -a.1 = 0 ∨ -a.1 = 1; omega, by show -a.1 = 0 ↔ a.2.1 = 0; omega, h3, h4, fun g => h5 (by have : -a.1 ≠ 0 := g; omega)⟩
theorem lg_mul {a b : Nat} (ha : 0 < a) (hb : 0 < b) : Nat.log2 a + Nat.log2 b ≤ Nat.log2 (a * b) ∧ Nat.log2 (a * b) ≤ Nat.log2 a + Nat.log2 b + 1 := by
  have a1 := Nat.log2_self_le (n := a) (by omega)
  have a2 : a < 2 ^ (Nat.log2 a + 1) := Nat.lt_log2_self
  have b1 := Nat.log2_self_le (n := b) (by omega)
  have b2 : b < 2 ^ (Nat.log2 b + 1) := Nat.lt_log2_self
  have hab : a * b ≠ 0 := by
    have := Nat.mul_pos ha hb
    omega
  constructor
  · apply (Nat.le_log2 hab).mpr
    rw [Nat.pow_add]
    exact Nat.mul_le_mul a1 b1
  · have : Nat.log2 (a * b) < Nat.log2 a + Nat.log2 b + 2 := by
      apply (Nat.log2_lt hab).mpr
      rw [show Nat.log2 a + Nat.log2 b + 2 = (Nat.log2 a + 1) + (Nat.log2 b + 1) by omega, Nat.pow_add]
      exact Nat.mul_lt_mul'' a2 b2
    omega
theorem jq_sgm {s t : Int} (hs : s = -1 ∨ s = 0 ∨ s = 1) (ht : t = -1 ∨ t = 0 ∨ t = 1) : (s * t = -1 ∨ s * t = 0 ∨ s * t = 1) ∧ (s * t = 0 ↔ s = 0 ∨ t = 0) := by
  rcases hs with rfl | rfl | rfl <;> rcases ht with rfl | rfl | rfl <;> decide
theorem jq_mul_b {x y : Option (Int × Nat × Int)} (bx : jq_b 11 44 56 x) (bz : jq_b 11 44 56 y) : jq_b 22 89 112 (jq_mul x y) := by
  cases x with
  | none => trivial
  | some a =>
    cases y with
    | none => trivial
    | some b =>
      obtain ⟨x1, x2, x3, x4, x5⟩ := bx
      obtain ⟨y1, y2, y3, y4, y5⟩ := bz
      obtain ⟨s1, s2⟩ := jq_sgm x1 y1
      refine ⟨s1, ?_, ?_, ⟨?_, ?_⟩, fun g => ?_⟩
      · show a.1 * b.1 = 0 ↔ a.2.1 * b.2.1 = 0
        rw [s2, Nat.mul_eq_zero, x2, y2]
      · have := Nat.mul_lt_mul'' x3 y3
        rw [← Nat.pow_add] at this
        exact this
      · show -((112 : Nat) : Int) ≤ a.2.2 + b.2.2
        omega
      · show a.2.2 + b.2.2 ≤ ((112 : Nat) : Int)
        omega
      · have hn : ¬ (a.1 = 0 ∨ b.1 = 0) := fun h => g (s2.mpr h)
        have ha := x5 (fun h => hn (Or.inl h))
        have hb := y5 (fun h => hn (Or.inr h))
        have hl := lg_mul (a := a.2.1) (b := b.2.1) (by omega) (by omega)
        show -((89 : Nat) : Int) ≤ (Nat.log2 (a.2.1 * b.2.1) : Int) + (a.2.2 + b.2.2) ∧ (Nat.log2 (a.2.1 * b.2.1) : Int) + (a.2.2 + b.2.2) ≤ ((89 : Nat) : Int)
        omega
theorem jq_st_lgd {x d : Nat} (hd : 0 < d) (hx : d ≤ x) : Nat.log2 x ≤ Nat.log2 (jq_st x d) + Nat.log2 d + 1 ∧ Nat.log2 (jq_st x d) + Nat.log2 d ≤ Nat.log2 x + 1 := by
  have a1 := Nat.log2_self_le (n := x) (by omega)
  have a2 : x < 2 ^ (Nat.log2 x + 1) := Nat.lt_log2_self
  have b1 := Nat.log2_self_le (n := d) (by omega)
  have b2 : d < 2 ^ (Nat.log2 d + 1) := Nat.lt_log2_self
  have hp := jq_st_pos (x := x) (d := d) (by omega)
  have hle := jq_st_le x d
  have hlo : x / d ≤ jq_st x d := Nat.left_le_or
  have c1 := Nat.log2_self_le (n := jq_st x d) (by omega)
  have c2 : jq_st x d < 2 ^ (Nat.log2 (jq_st x d) + 1) := Nat.lt_log2_self
  have hxd : x < (x / d + 1) * d := by
    have := Nat.div_add_mod x d
    have := Nat.mod_lt x hd
    rw [Nat.add_mul, Nat.one_mul, Nat.mul_comm]
    omega
  constructor
  · have h1 : x < 2 ^ (Nat.log2 (jq_st x d) + 1) * 2 ^ (Nat.log2 d + 1) := by
      have h2 : (x / d + 1) * d ≤ 2 ^ (Nat.log2 (jq_st x d) + 1) * 2 ^ (Nat.log2 d + 1) := Nat.mul_le_mul (by omega) (Nat.le_of_lt b2)
      omega
    rw [← Nat.pow_add] at h1
    have := lg_le (by omega) h1
    omega
  · have h1 : 2 ^ Nat.log2 (jq_st x d) * 2 ^ Nat.log2 d ≤ (x / d + 1) * d := Nat.mul_le_mul (by omega) b1
    have h2 : (x / d + 1) * d ≤ x + d := by
      have := Nat.div_mul_le_self x d
      rw [Nat.add_mul, Nat.one_mul]
      omega
    have h3 : x + d < 2 ^ (Nat.log2 x + 2) := by
      rw [Nat.pow_succ]
      omega
    rw [← Nat.pow_add] at h1
    have h4 : 2 ^ (Nat.log2 (jq_st x d) + Nat.log2 d) < 2 ^ (Nat.log2 x + 2) := by omega
    have := (Nat.pow_lt_pow_iff_right (a := 2) (by decide)).mp h4
    omega
theorem lg_shl {x k : Nat} (hx : 0 < x) : Nat.log2 (x * 2 ^ k) = Nat.log2 x + k := by
  have h1 := Nat.log2_self_le (n := x) (by omega)
  have h2 : x < 2 ^ (Nat.log2 x + 1) := Nat.lt_log2_self
  have hp := Nat.two_pow_pos k
  have hn : x * 2 ^ k ≠ 0 := by
    have := Nat.mul_pos hx hp
    omega
  apply (Nat.log2_eq_iff hn).mpr
  constructor
  · rw [Nat.pow_add]; exact Nat.mul_le_mul_right _ h1
  · rw [show Nat.log2 x + k + 1 = Nat.log2 x + 1 + k by omega, Nat.pow_add]
    exact (Nat.mul_lt_mul_right hp).mpr h2
theorem jq_div_ok {x y : Option (Int × Nat × Int)} (bx : jq_b 21 44 56 x) (bz : jq_b 21 44 56 y) : jq_ok (jq_div x y) := by
  cases x with
  | none => trivial
  | some a =>
    cases y with
    | none => trivial
    | some b =>
      unfold jq_div
      dsimp only
      by_cases h0 : b.2.1 = 0
      · rw [if_pos h0]; trivial
      · rw [if_neg h0]
        obtain ⟨x1, x2, x3, x4, x5⟩ := bx
        obtain ⟨y1, y2, y3, y4, y5⟩ := bz
        obtain ⟨s1, s2⟩ := jq_sgm x1 y1
        have hover : a.2.1 * 2 ^ 40 < 2 ^ 61 := by
          have := (Nat.mul_lt_mul_right (Nat.two_pow_pos 40)).mpr x3
          rw [← Nat.pow_add] at this
          exact this
        have hst := jq_st_le (a.2.1 * 2 ^ 40) b.2.1
        have hq : a.2.1 * 2 ^ 40 / b.2.1 ≤ a.2.1 * 2 ^ 40 := Nat.div_le_self _ _
        refine ⟨s1, ?_, by show jq_st (a.2.1 * 2 ^ 40) b.2.1 < _; omega, by show -200 ≤ a.2.2 - b.2.2 - 40; omega, by show a.2.2 - b.2.2 - 40 ≤ 200; omega, fun g => ?_⟩
        · show a.1 * b.1 = 0 ↔ jq_st (a.2.1 * 2 ^ 40) b.2.1 = 0
          rw [s2]
          constructor
          · intro h
            rcases h with h | h
            · rw [x2.mp h, Nat.zero_mul]
              unfold jq_st
              rw [Nat.zero_div, Nat.zero_mod]
              rfl
            · exact absurd (y2.mp h) h0
          · intro h
            left
            apply x2.mpr
            rcases Nat.eq_zero_or_pos a.2.1 with g | g
            · exact g
            · have := jq_st_pos (x := a.2.1 * 2 ^ 40) (d := b.2.1) (Nat.mul_pos g (by decide))
              omega
        · have hn : ¬ (a.1 = 0 ∨ b.1 = 0) := fun h => g (s2.mpr h)
          have ha := x5 (fun h => hn (Or.inl h))
          have hb := y5 (fun h => hn (Or.inr h))
          have ha0 : 0 < a.2.1 := by
            rcases Nat.eq_zero_or_pos a.2.1 with g | g
            · exact absurd (Or.inl (x2.mpr g)) hn
            · exact g
          have hl := lg_shl (k := 40) ha0
          have h40 : b.2.1 ≤ a.2.1 * 2 ^ 40 := by omega
          have hd := jq_st_lgd (x := a.2.1 * 2 ^ 40) (d := b.2.1) (by omega) h40
          show -160 ≤ (Nat.log2 (jq_st (a.2.1 * 2 ^ 40) b.2.1) : Int) + (a.2.2 - b.2.2 - 40) ∧ (Nat.log2 (jq_st (a.2.1 * 2 ^ 40) b.2.1) : Int) + (a.2.2 - b.2.2 - 40) ≤ 160
          omega
theorem jq_sr_pos {q : Nat} (hq : 0 < q) (hq2 : q < 4611686018427387904) : 0 < jq_sr q ∧ jq_sr q < 2 ^ 31 := by
  have h := jq_iq_is q 31 0 (by omega) (by omega)
  unfold jq_sr
  constructor
  · have hl := @Nat.left_le_or (jq_iq q 31 0) (if jq_iq q 31 0 * jq_iq q 31 0 = q then 0 else 1)
    have : jq_iq q 31 0 ≠ 0 := by
      intro hz
      have := h.2.1
      rw [hz] at this
      omega
    omega
  · apply Nat.or_lt_two_pow
    · omega
    · split <;> decide
theorem jq_rt_ok {x : Option (Int × Nat × Int)} (bx : jq_b 20 44 56 x) : jq_ok (jq_rt x) := by
  cases x with
  | none => trivial
  | some a =>
    unfold jq_rt
    dsimp only
    by_cases h0 : a.1 < 0
    · rw [if_pos h0]; trivial
    · rw [if_neg h0]
      obtain ⟨x1, x2, x3, x4, x5⟩ := bx
      have hq : a.2.1 * 2 ^ (40 + (a.2.2 % 2).toNat) < 4611686018427387904 := by
        have h1 : 2 ^ (40 + (a.2.2 % 2).toNat) ≤ 2 ^ 41 := p2_le (by omega)
        have := Nat.mul_le_mul (Nat.le_of_lt x3) h1
        omega
      by_cases hz : a.2.1 = 0
      · have e : jq_sr (a.2.1 * 2 ^ (40 + (a.2.2 % 2).toNat)) = 0 := by
          rw [hz, Nat.zero_mul]
          decide
        rw [e]
        exact ⟨x1, ⟨fun _ => rfl, fun _ => x2.mpr hz⟩, by show (0 : Nat) < 4611686018427387904; decide, by show -200 ≤ (a.2.2 - (40 + a.2.2 % 2)) / 2; omega, by show (a.2.2 - (40 + a.2.2 % 2)) / 2 ≤ 200; omega, fun g => absurd (x2.mpr hz) g⟩
      · have hs := jq_sr_pos (q := a.2.1 * 2 ^ (40 + (a.2.2 % 2).toNat)) (Nat.mul_pos (by omega) (Nat.two_pow_pos _)) hq
        have hl := lg_le hs.1 hs.2
        exact ⟨x1, ⟨fun h => absurd (x2.mp h) hz, fun h => by have h' : jq_sr (a.2.1 * 2 ^ (40 + (a.2.2 % 2).toNat)) = 0 := h; omega⟩, by show jq_sr (a.2.1 * 2 ^ (40 + (a.2.2 % 2).toNat)) < _; omega, by show -200 ≤ (a.2.2 - (40 + a.2.2 % 2)) / 2; omega, by show (a.2.2 - (40 + a.2.2 % 2)) / 2 ≤ 200; omega, fun _ => by
          show -160 ≤ (Nat.log2 (jq_sr (a.2.1 * 2 ^ (40 + (a.2.2 % 2).toNat))) : Int) + (a.2.2 - (40 + a.2.2 % 2)) / 2 ∧ (Nat.log2 (jq_sr (a.2.1 * 2 ^ (40 + (a.2.2 % 2).toNat))) : Int) + (a.2.2 - (40 + a.2.2 % 2)) / 2 ≤ 160
          omega⟩
theorem jq_addh_ok {a b : Int × Nat × Int} (ba : jq_b 24 89 112 (some a)) (bb : jq_b 24 89 112 (some b)) (na : a.1 ≠ 0) (nb : b.1 ≠ 0) (hs : (Nat.log2 b.2.1 : Int) + b.2.2 ≤ Nat.log2 a.2.1 + a.2.2) : jq_ok (some (jq_addh a b)) := by
  obtain ⟨s, m, p⟩ := a
  obtain ⟨s', m', p'⟩ := b
  obtain ⟨x1, x2, x3, x4, x5⟩ := ba
  obtain ⟨y1, y2, y3, y4, y5⟩ := bb
  dsimp only at *
  have x6 := x5 na
  have y6 := y5 nb
  have m0 : 0 < m := by
    rcases Nat.eq_zero_or_pos m with h | h
    · exact absurd (x2.mpr h) na
    · exact h
  have m0' : 0 < m' := by
    rcases Nat.eq_zero_or_pos m' with h | h
    · exact absurd (y2.mpr h) nb
    · exact h
  have hl := lg_le m0 x3
  have hl' := lg_le m0' y3
  have hbig : m * 2 ^ (57 - Nat.log2 m) < 2 ^ 58 := by
    have a1 : m < 2 ^ (Nat.log2 m + 1) := Nat.lt_log2_self
    have := (Nat.mul_lt_mul_right (Nat.two_pow_pos (57 - Nat.log2 m))).mpr a1
    rw [← Nat.pow_add, show Nat.log2 m + 1 + (57 - Nat.log2 m) = 58 by omega] at this
    exact this
  have hsm : jq_mv m' (p' - (p - ((57 - Nat.log2 m : Nat) : Int))) < 2 ^ 58 := jq_mv_lt m0' (by omega) (by decide) y3
  unfold jq_addh jq_ok
  dsimp only
  generalize hz : (if s = s' then ((m * 2 ^ (57 - Nat.log2 m) : Nat) : Int) + (jq_mv m' (p' - (p - ((57 - Nat.log2 m : Nat) : Int))) : Nat) else ((m * 2 ^ (57 - Nat.log2 m) : Nat) : Int) - (jq_mv m' (p' - (p - ((57 - Nat.log2 m : Nat) : Int))) : Nat)) = z
  have hzb : -576460752303423488 < z ∧ z < 576460752303423488 := by
    rw [← hz]
    split <;> omega
  have hsg : ((if z = 0 then (0 : Int) else if z < 0 then -s else s) = -1 ∨ (if z = 0 then (0 : Int) else if z < 0 then -s else s) = 0 ∨ (if z = 0 then (0 : Int) else if z < 0 then -s else s) = 1) ∧ ((if z = 0 then (0 : Int) else if z < 0 then -s else s) = 0 ↔ z.natAbs = 0) := by
    split
    · omega
    · split <;> omega
  refine ⟨hsg.1, hsg.2, by omega, by omega, by omega, fun g => ?_⟩
  have hz0 : 0 < z.natAbs := by
    rcases Nat.eq_zero_or_pos z.natAbs with h | h
    · exact absurd (hsg.2.mpr h) g
    · exact h
  have := lg_le (k := 59) hz0 (by omega)
  omega
theorem jq_add_ok {x y : Option (Int × Nat × Int)} (bx : jq_b 24 89 112 x) (bz : jq_b 24 89 112 y) : jq_ok (jq_add x y) := by
  cases x with
  | none => trivial
  | some a =>
    cases y with
    | none => trivial
    | some b =>
      unfold jq_add
      dsimp only
      by_cases h0 : a.1 = 0
      · rw [if_pos h0]; exact jq_b_ok bz (by decide) (by decide) (by decide)
      · rw [if_neg h0]
        by_cases h1 : b.1 = 0
        · rw [if_pos h1]; exact jq_b_ok bx (by decide) (by decide) (by decide)
        · rw [if_neg h1]
          by_cases hs : (Nat.log2 b.2.1 : Int) + b.2.2 ≤ Nat.log2 a.2.1 + a.2.2
          · rw [if_pos hs]; exact jq_addh_ok bx bz h0 h1 hs
          · rw [if_neg hs]; exact jq_addh_ok bz bx h1 h0 (by omega)
section TWO
variable {S : Option (Nat × (Nat → Int32))} {H : jm_H}
theorem c87 {N W A B : Nat} (st : jm_st H) (h1 : 3 ≤ N) (h2 : N ≤ 12) (hw : W ≤ 2) (hA : A < 2 ^ N) (hB : B < 2 ^ N) (what : Nat) (h4 : what < 4) : ∃ H1, jm_I H1 11 3 = jI (jq_rnd N W (jq_op2 what (jq_val N W A) (jq_val N W B))).2 ∧ jf_fr jq_RR H H1 ∧ ∀ Q, jm_c S 87 [.ref 11, .int (nI N), .int (nI W), .int (nI A), .int (nI B), .int (nI what)] H Q = Q (some (.int (nI (jq_rnd N W (jq_op2 what (jq_val N W A) (jq_val N W B))).1))) H1 := by
  have t11 := st_t11 st
  have r0 := st_r11_0 st
  have r1 := st_r11_1 st
  obtain ⟨H1, i1, _, f1, q1⟩ := c68 (S := S) (H := H) (st_t12 st) (st_r12_0 st) (by decide) (by decide) (st_t13 st) h1 h2 hw hA
  have st1 := jf_fr_st f1 st
  obtain ⟨H2, i2, _, f2, q2⟩ := c68 (S := S) (H := H1) (st_t14 st1) (st_r14_0 st1) (by decide) (by decide) (st_t15 st1) h1 h2 hw hB
  have st2 := jf_fr_st f2 st1
  have i1' : jq_is H2 12 (jq_val N W A) := jq_is_fr f2 (by decide) i1
  have bA := jq_val_b h1 h2 hw hA
  have bB := jq_val_b h1 h2 hw hB
  have f12 : jf_fr jq_RR H H2 := jf_fr_trans (jf_fr_mono f1 (fun x hx => by rcases hx with rfl | rfl <;> decide)) (jf_fr_mono f2 (fun x hx => by rcases hx with rfl | rfl <;> decide))
  have go : ∀ Q, jm_c S 87 [.ref 11, .int (nI N), .int (nI W), .int (nI A), .int (nI B), .int (nI what)] H Q = jm_w S 6 87 23 [.ref 11, .int (nI N), .int (nI W), .int (nI A), .int (nI B), .int (nI what)] [.int (nI what)] H2 Q := by
    intro Q
    rw [en87, u87_0 t11 (by rw [r0]; decide) (by rw [r0]; exact st_t12 st), r0, q1]
    simp only [Option.toList_none, List.nil_append]
    rw [u87_10 (st_t11 st1) (by rw [st_r11_1 st1]; decide) (by rw [st_r11_1 st1]; exact st_t14 st1), st_r11_1 st1, q2]
    simp only [Option.toList_none, List.nil_append]
    rw [u87_21]
  -- behind the op: rounded
  have fin : ∀ (v : Option (Int × Nat × Int)) (G : jm_H), jq_is G 16 v → jq_ok v → jf_fr jq_RR H G → ∃ H1, jm_I H1 11 3 = jI (jq_rnd N W v).2 ∧ jf_fr jq_RR H H1 ∧ ∀ Q, jm_w S 6 87 88 [.ref 11, .int (nI N), .int (nI W), .int (nI A), .int (nI B), .int (nI what)] [] G Q = Q (some (.int (nI (jq_rnd N W v).1))) H1 := by
    intro v G iG oG fG
    have stG := jf_fr_st fG st
    obtain ⟨G1, l1, g1, p1⟩ := c49 (S := S) stG (st_t16 stG) iG oG h1 h2 hw
    refine ⟨G1, l1, jf_fr_trans fG (jf_fr_mono g1 (fun x hx => by rcases hx with rfl | rfl <;> decide)), fun Q => ?_⟩
    rw [u87_88 (st_t11 stG) (by rw [st_r11_2 stG]; decide), st_r11_2 stG, p1]
    simp only [Option.toList_some, List.append_nil]
    rw [u87_98]
  match what, h4 with
  | 0, _ =>
    obtain ⟨G, iG, fG, qG⟩ := c88 (S := S) st2 i1' i2 (jq_b_mono bA (by decide) (by decide) (by decide)) (jq_b_mono bB (by decide) (by decide) (by decide))
    obtain ⟨G1, l1, g1, p1⟩ := fin _ G iG (jq_add_ok (jq_b_mono bA (by decide) (by decide) (by decide)) (jq_b_mono bB (by decide) (by decide) (by decide))) (jf_fr_trans f12 (jf_fr_mono fG (fun x hx => by rcases hx with rfl; decide)))
    refine ⟨G1, l1, g1, fun Q => ?_⟩
    rw [go]
    show jm_w S 6 87 23 _ [.int 0] H2 Q = _
    rw [u87_23_0, u87_48 (st_t11 st2), qG]
    simp only [Option.toList_none, List.nil_append]
    rw [u87_52]
    exact p1 Q
  | 1, _ =>
    have i2' : jq_is (jm_pI H2 14 2 (-(jm_I H2 14 2))) 14 (jq_ng (jq_val N W B)) := by
      revert i2
      cases jq_val N W B with
      | none =>
        intro i2
        have h : jm_I H2 14 1 = 1 := i2
        show jm_I (jm_pI H2 14 2 _) 14 1 = 1
        rw [jm_I_pI, if_neg (by omega)]
        exact h
      | some b =>
        intro i2
        obtain ⟨b1, b2, b3, b4⟩ := i2
        unfold jq_ng jq_is
        simp only [jm_I_pI, jm_L_pI, true_and, Nat.reduceEqDiff, if_true, if_false, and_false]
        exact ⟨b1, by rw [b2, jI_neg], b3, b4⟩
    have fn : jf_fr jq_RR H2 (jm_pI H2 14 2 (-(jm_I H2 14 2))) := jf_fr_pI (by decide)
    have st3 := jf_fr_st fn st2
    have i1'' : jq_is (jm_pI H2 14 2 (-(jm_I H2 14 2))) 12 (jq_val N W A) := jq_is_fr (P := fun q => q = 14) (jf_fr_pI rfl) (by decide) i1'
    obtain ⟨G, iG, fG, qG⟩ := c88 (S := S) st3 i1'' i2' (jq_b_mono bA (by decide) (by decide) (by decide)) (jq_ng_b (jq_b_mono bB (by decide) (by decide) (by decide)))
    obtain ⟨G1, l1, g1, p1⟩ := fin _ G iG (jq_add_ok (jq_b_mono bA (by decide) (by decide) (by decide)) (jq_ng_b (jq_b_mono bB (by decide) (by decide) (by decide)))) (jf_fr_trans (jf_fr_trans f12 fn) (jf_fr_mono fG (fun x hx => by rcases hx with rfl; decide)))
    refine ⟨G1, l1, g1, fun Q => ?_⟩
    rw [go]
    show jm_w S 6 87 23 _ [.int 1] H2 Q = _
    rw [u87_23_1, u87_55 (st_t11 st2) (by rw [st_r11_1 st2]; decide) (by rw [st_r11_1 st2]; exact st_t14 st2), st_r11_1 st2, qG]
    simp only [Option.toList_none, List.nil_append]
    rw [u87_74]
    exact p1 Q
  | 2, _ =>
    obtain ⟨G, iG, fG, qG⟩ := c89 (S := S) st2 i1' i2 (jq_b_mono bA (by decide) (by decide) (by decide)) (jq_b_mono bB (by decide) (by decide) (by decide))
    obtain ⟨G1, l1, g1, p1⟩ := fin _ G iG (jq_b_ok (jq_mul_b bA bB) (by decide) (by decide) (by decide)) (jf_fr_trans f12 (jf_fr_mono fG (fun x hx => by rcases hx with rfl; decide)))
    refine ⟨G1, l1, g1, fun Q => ?_⟩
    rw [go]
    show jm_w S 6 87 23 _ [.int 2] H2 Q = _
    rw [u87_23_2, u87_77 (st_t11 st2), qG]
    simp only [Option.toList_none, List.nil_append]
    rw [u87_81]
    exact p1 Q
  | 3, _ =>
    obtain ⟨G, iG, fG, qG⟩ := c90 (S := S) st2 i1' i2 (jq_b_mono bA (by decide) (by decide) (by decide)) (jq_b_mono bB (by decide) (by decide) (by decide))
    obtain ⟨G1, l1, g1, p1⟩ := fin _ G iG (jq_div_ok (jq_b_mono bA (by decide) (by decide) (by decide)) (jq_b_mono bB (by decide) (by decide) (by decide))) (jf_fr_trans f12 (jf_fr_mono fG (fun x hx => by rcases hx with rfl; decide)))
    refine ⟨G1, l1, g1, fun Q => ?_⟩
    rw [go, u87_23_d (Or.inr (by decide)), u87_84 (st_t11 st2), qG]
    simp only [Option.toList_none, List.nil_append]
    exact p1 Q
end TWO
