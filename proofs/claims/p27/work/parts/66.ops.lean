set_option maxRecDepth 20000
/-! the class's product, quotient, root, sum -/
def jq_mul (x y : Option (Int × Nat × Int)) : Option (Int × Nat × Int) := match x, y with
  | some a, some b => some (a.1 * b.1, a.2.1 * b.2.1, a.2.2 + b.2.2)
  | _, _ => none
def jq_div (x y : Option (Int × Nat × Int)) : Option (Int × Nat × Int) := match x, y with
  | some a, some b => if b.2.1 = 0 then none else some (a.1 * b.1, jq_st (a.2.1 * 2 ^ 40) b.2.1, a.2.2 - b.2.2 - 40)
  | _, _ => none
/-- the whole root, bit by bit -/
def jq_iq (q : Nat) : Nat → Nat → Nat
  | 0, r => r
  | i + 1, r => if (r + 2 ^ i) * (r + 2 ^ i) ≤ q then jq_iq q i (r + 2 ^ i) else jq_iq q i r
def jq_sr (q : Nat) : Nat := jq_iq q 31 0 ||| (if jq_iq q 31 0 * jq_iq q 31 0 = q then 0 else 1)
def jq_rt (x : Option (Int × Nat × Int)) : Option (Int × Nat × Int) := match x with
  | some a => if a.1 < 0 then none else some (a.1, jq_sr (a.2.1 * 2 ^ (40 + (a.2.2 % 2).toNat)), (a.2.2 - (40 + a.2.2 % 2)) / 2)
  | none => none
/-- of two that are not 0, the one with the higher scale first -/
def jq_addh (a b : Int × Nat × Int) : Int × Nat × Int :=
  let up := 57 - Nat.log2 a.2.1
  let z : Int := if a.1 = b.1 then ((a.2.1 * 2 ^ up : Nat) : Int) + (jq_mv b.2.1 (b.2.2 - (a.2.2 - up)) : Nat) else ((a.2.1 * 2 ^ up : Nat) : Int) - (jq_mv b.2.1 (b.2.2 - (a.2.2 - up)) : Nat)
  (if z = 0 then 0 else if z < 0 then -a.1 else a.1, z.natAbs, a.2.2 - up)
def jq_add (x y : Option (Int × Nat × Int)) : Option (Int × Nat × Int) := match x, y with
  | some a, some b => if a.1 = 0 then some b else if b.1 = 0 then some a else if (Nat.log2 b.2.1 : Int) + b.2.2 ≤ Nat.log2 a.2.1 + a.2.2 then some (jq_addh a b) else some (jq_addh b a)
  | _, _ => none
/-- a number within bounds: of its bits, its scale, its power -/
def jq_b (B E P : Nat) (x : Option (Int × Nat × Int)) : Prop := match x with
  | none => True
  | some y => (y.1 = -1 ∨ y.1 = 0 ∨ y.1 = 1) ∧ (y.1 = 0 ↔ y.2.1 = 0) ∧ y.2.1 < 2 ^ B ∧ (-(P : Int) ≤ y.2.2 ∧ y.2.2 ≤ P) ∧ (y.1 ≠ 0 → -(E : Int) ≤ (Nat.log2 y.2.1 : Int) + y.2.2 ∧ (Nat.log2 y.2.1 : Int) + y.2.2 ≤ E)
theorem jq_b_mono {B E P B' E' P' : Nat} {x : Option (Int × Nat × Int)} (h : jq_b B E P x) (hb : B ≤ B') (he : E ≤ E') (hp : P ≤ P') : jq_b B' E' P' x := by
  cases x with
  | none => trivial
  | some y =>
    obtain ⟨h1, h2, h3, h4, h5⟩ := h
    exact ⟨h1, h2, Nat.lt_of_lt_of_le h3 (p2_le hb), by omega, fun g => by have := h5 g; omega⟩
theorem jq_b_ok {B E P : Nat} {x : Option (Int × Nat × Int)} (h : jq_b B E P x) (hb : B ≤ 62) (he : E ≤ 160) (hp : P ≤ 200) : jq_ok x := by
  cases x with
  | none => trivial
  | some y =>
    obtain ⟨h1, h2, h3, h4, h5⟩ := h
    exact ⟨h1, h2, Nat.lt_of_lt_of_le h3 (p2_le hb), by omega, by omega, fun g => by have := h5 g; omega⟩
theorem jq_val_b {N W A : Nat} (h1 : 3 ≤ N) (h2 : N ≤ 12) (hw : W ≤ 2) (hA : A < 2 ^ N) : jq_b 11 44 56 (jq_val N W A) := by
  unfold jq_val
  by_cases h0 : A = 0
  · rw [if_pos h0]
    exact ⟨Or.inr (Or.inl rfl), ⟨fun _ => rfl, fun _ => rfl⟩, by decide, by decide, fun h => absurd rfl h⟩
  · rw [if_neg h0]
    by_cases hn : A = 2 ^ (N - 1)
    · rw [if_pos hn]; trivial
    · rw [if_neg hn]
      obtain ⟨b1, b2⟩ := jf_bare_pos (show 1 ≤ N by omega) hA h0 hn
      obtain ⟨o1, o2, o3, o4, o5⟩ := jq_om_pos h1 h2 hw b1 b2
      have hle : 2 ^ (N - 1) ≤ 2 ^ 11 := p2_le (by omega)
      have k1 : jq_om N W (jf_bare N A) < 2 ^ 11 := by omega
      have k2 : ¬ jq_om N W (jf_bare N A) = 0 := by omega
      by_cases h : A < 2 ^ (N - 1)
      · rw [if_pos h]
        exact ⟨Or.inr (Or.inr rfl), ⟨fun h => absurd h (show ¬ (1 : Int) = 0 by decide), fun h => absurd h k2⟩, k1, ⟨by dsimp only; omega, by dsimp only; omega⟩, fun _ => ⟨by dsimp only; omega, by dsimp only; omega⟩⟩
      · rw [if_neg h]
        exact ⟨Or.inl rfl, ⟨fun h => absurd h (show ¬ (-1 : Int) = 0 by decide), fun h => absurd h k2⟩, k1, ⟨by dsimp only; omega, by dsimp only; omega⟩, fun _ => ⟨by dsimp only; omega, by dsimp only; omega⟩⟩
theorem jq_st_if (x d : Nat) : jq_st x d = x / d ||| (if x / d * d = x then 0 else 1) := by
  unfold jq_st
  have h := Nat.div_add_mod x d
  rw [Nat.mul_comm] at h
  by_cases c : x % d = 0
  · rw [if_pos c, if_pos (by omega)]
  · rw [if_neg c, if_neg (by omega)]
theorem jq_st_le (x d : Nat) : jq_st x d ≤ x / d + 1 := by
  unfold jq_st
  split
  · simp
  · have h := Nat.lt_succ_self (x / d)
    rcases Nat.mod_two_eq_zero_or_one (x / d) with e | e
    · have : x / d = 2 ^ 1 * (x / d / 2) := by omega
      rw [this, ← Nat.two_pow_add_eq_or_of_lt (by decide)]
      omega
    · have e2 : x / d = 2 ^ 1 * (x / d / 2) + 1 := by omega
      have : x / d ||| 1 = x / d := by
        rw [e2, Nat.two_pow_add_eq_or_of_lt (by decide), Nat.or_assoc]
        rfl
      omega
theorem jq_st_pos {x d : Nat} (hx : 0 < x) : 0 < jq_st x d := by
  unfold jq_st
  by_cases h : x % d = 0
  · have h3 := Nat.div_add_mod x d
    have h4 : 0 < x / d := Nat.pos_of_ne_zero (fun hz => by
      rw [hz, h, Nat.mul_zero] at h3
      omega)
    exact Nat.lt_of_lt_of_le h4 Nat.left_le_or
  · rw [if_neg h]
    exact Nat.lt_of_lt_of_le Nat.one_pos Nat.right_le_or
section OPS
variable {S : Option (Nat × (Nat → Int32))} {H : jm_H}
theorem p2_31 : (2 : Nat) ^ 31 = 2147483648 := by decide
theorem jI_sg {s s' : Int} : jI s * jI s' = jI (s * s') := jI_mul s s'
theorem c89 {x y : Option (Int × Nat × Int)} (st : jm_st H) (hx : jq_is H 12 x) (hy : jq_is H 14 y) (bx : jq_b 30 100 120 x) (bz : jq_b 30 100 120 y) : ∃ H1, jq_is H1 16 (jq_mul x y) ∧ jf_fr (fun q => q = 16) H H1 ∧ ∀ Q, jm_c S 89 [.ref 11] H Q = Q none H1 := by
  have t11 := st_t11 st
  have t12 := st_t12 st
  have t14 := st_t14 st
  have t16 := st_t16 st
  have r0 := st_r11_0 st
  have r1 := st_r11_1 st
  have r2 := st_r11_2 st
  have hnil : jq_mul x y = none → (jm_I H 12 1 = 1 ∨ (jm_I H 12 1 = 0 ∧ jm_I H 14 1 = 1)) → ∃ H1, jq_is H1 16 (jq_mul x y) ∧ jf_fr (fun q => q = 16) H H1 ∧ ∀ Q, jm_c S 89 [.ref 11] H Q = Q none H1 := by
    intro hn hc
    obtain ⟨H1, i1, f1, q1⟩ := c70' (S := S) (H := H) t16
    refine ⟨H1, by rw [hn]; exact i1, f1, fun Q => ?_⟩
    have e20 : jm_w S 3 89 20 [.ref 11] [] H Q = Q none H1 := by
      rw [u89_20 t11 (by rw [r2]; decide) (by rw [r2]; exact t16), r2, q1]
      simp only [Option.toList_none, List.nil_append]
      rw [u89_27]
    rw [en89, u89_0 t11 (by rw [r0]; decide) (by rw [r0]; exact t12), r0]
    rcases hc with h | ⟨h, h'⟩
    · rw [h, if_pos i1_0, e20]
    · rw [h, if_neg (by decide), u89_10 t11 (by rw [r1]; decide) (by rw [r1]; exact t14), r1, h', if_neg i1_0, e20]
  cases x with
  | none => exact hnil rfl (Or.inl hx)
  | some a =>
    cases y with
    | none => exact hnil rfl (Or.inr ⟨hx.1, hy⟩)
    | some b =>
      obtain ⟨a1, a2, a3, a4⟩ := hx
      obtain ⟨b1, b2, b3, b4⟩ := hy
      obtain ⟨x1, x2, x3, x4, x5⟩ := bx
      obtain ⟨y1, y2, y3, y4, y5⟩ := bz
      have hm : a.2.1 * b.2.1 < 2 ^ 60 := by
        have := Nat.mul_lt_mul'' x3 y3
        rw [← Nat.pow_add] at this
        exact this
      obtain ⟨H1, i1, f1, q1⟩ := c48' (S := S) (H := H) (s := a.1 * b.1) (m := a.2.1 * b.2.1) (p := a.2.2 + b.2.2) t16 (by omega) (fun h => by
        rcases Nat.mul_eq_zero.mp h with h | h
        · rw [x2.mpr h, Int.zero_mul]
        · rw [y2.mpr h, Int.mul_zero])
      refine ⟨H1, i1, f1, fun Q => ?_⟩
      rw [en89, u89_0 t11 (by rw [r0]; decide) (by rw [r0]; exact t12), r0, a1, if_neg (by decide), u89_10 t11 (by rw [r1]; decide) (by rw [r1]; exact t14), r1, b1, if_pos rfl,
        u89_28 t11 (by rw [r2]; decide) (by rw [r0]; decide) (by rw [r0]; exact t12) (by rw [r1]; decide) (by rw [r1]; exact t14) (by rw [r2]; exact t16), r0, r1, r2, a2, a3, a4, b2, b3, b4, jI_mul, lN_mul, jI_add, q1]
      simp only [Option.toList_none, List.nil_append]
      rw [u89_80]
theorem c90 {x y : Option (Int × Nat × Int)} (st : jm_st H) (hx : jq_is H 12 x) (hy : jq_is H 14 y) (bx : jq_b 21 100 120 x) (bz : jq_b 21 100 120 y) : ∃ H1, jq_is H1 16 (jq_div x y) ∧ jf_fr (fun q => q = 16) H H1 ∧ ∀ Q, jm_c S 90 [.ref 11] H Q = Q none H1 := by
  have t11 := st_t11 st
  have t12 := st_t12 st
  have t14 := st_t14 st
  have t16 := st_t16 st
  have r0 := st_r11_0 st
  have r1 := st_r11_1 st
  have r2 := st_r11_2 st
  have hnil : jq_div x y = none → (jm_I H 12 1 = 1 ∨ (jm_I H 12 1 = 0 ∧ jm_I H 14 1 = 1) ∨ (jm_I H 12 1 = 0 ∧ jm_I H 14 1 = 0 ∧ jm_L H 14 3 = lN 0)) → ∃ H1, jq_is H1 16 (jq_div x y) ∧ jf_fr (fun q => q = 16) H H1 ∧ ∀ Q, jm_c S 90 [.ref 11] H Q = Q none H1 := by
    intro hn hc
    obtain ⟨H1, i1, f1, q1⟩ := c70' (S := S) (H := H) t16
    refine ⟨H1, by rw [hn]; exact i1, f1, fun Q => ?_⟩
    have e32 : jm_w S 3 90 32 [.ref 11, .null, .null, .null, .null, .null, .null] [] H Q = Q none H1 := by
      rw [u90_32 t11 (by rw [r2]; decide) (by rw [r2]; exact t16), r2, q1]
      simp only [Option.toList_none, List.nil_append]
      rw [u90_39]
    rw [en90, u90_0 t11 (by rw [r0]; decide) (by rw [r0]; exact t12), r0]
    rcases hc with h | ⟨h, h'⟩ | ⟨h, h', h3⟩
    · rw [h, if_pos i1_0, e32]
    · rw [h, if_neg (by decide), u90_10 t11 (by rw [r1]; decide) (by rw [r1]; exact t14), r1, h', if_pos i1_0, e32]
    · rw [h, if_neg (by decide), u90_10 t11 (by rw [r1]; decide) (by rw [r1]; exact t14), r1, h', if_neg (by decide), u90_20 t11 (by rw [r1]; decide) (by rw [r1]; exact t14), r1, h3, if_neg (by rw [lg_cmp0]; exact fun g => g rfl), e32]
  cases x with
  | none => exact hnil rfl (Or.inl hx)
  | some a =>
    cases y with
    | none => exact hnil rfl (Or.inr (Or.inl ⟨hx.1, hy⟩))
    | some b =>
      obtain ⟨a1, a2, a3, a4⟩ := hx
      obtain ⟨b1, b2, b3, b4⟩ := hy
      obtain ⟨x1, x2, x3, x4, x5⟩ := bx
      obtain ⟨y1, y2, y3, y4, y5⟩ := bz
      by_cases h0 : b.2.1 = 0
      · have e : jq_div (some a) (some b) = none := by unfold jq_div; dsimp only; rw [if_pos h0]
        rw [h0] at b3
        exact hnil e (Or.inr (Or.inr ⟨a1, b1, b3⟩))
      · have e : jq_div (some a) (some b) = some (a.1 * b.1, jq_st (a.2.1 * 2 ^ 40) b.2.1, a.2.2 - b.2.2 - 40) := by unfold jq_div; dsimp only; rw [if_neg h0]
        have hover : a.2.1 * 2 ^ 40 < 2 ^ 61 := by
          have := (Nat.mul_lt_mul_right (Nat.two_pow_pos 40)).mpr x3
          rw [← Nat.pow_add] at this
          exact this
        have hq : a.2.1 * 2 ^ 40 / b.2.1 ≤ a.2.1 * 2 ^ 40 := Nat.div_le_self _ _
        have hst := jq_st_le (a.2.1 * 2 ^ 40) b.2.1
        have hmul := Nat.div_mul_le_self (a.2.1 * 2 ^ 40) b.2.1
        obtain ⟨H1, i1, f1, q1⟩ := c48' (S := S) (H := H) (s := a.1 * b.1) (m := jq_st (a.2.1 * 2 ^ 40) b.2.1) (p := a.2.2 - b.2.2 - 40) t16 (by omega) (fun h => by
          have hz : a.2.1 = 0 := by
            rcases Nat.eq_zero_or_pos a.2.1 with g | g
            · exact g
            · have := jq_st_pos (x := a.2.1 * 2 ^ 40) (d := b.2.1) (Nat.mul_pos g (by decide))
              omega
          rw [x2.mpr hz, Int.zero_mul])
        refine ⟨H1, by rw [e]; exact i1, f1, fun Q => ?_⟩
        have hbn : ¬ lN b.2.1 = (0 : Int64) := fun h => h0 ((lN_eqS (b := 0) (by omega) (by decide)).mp h)
        have eo : lN a.2.1 <<< (Int32.toInt64 (40 : Int32) &&& 63) = lN (a.2.1 * 2 ^ 40) := lN_shl a.2.1 (k := 40) (by decide)
        have ed : lN (a.2.1 * 2 ^ 40) / lN b.2.1 = lN (a.2.1 * 2 ^ 40 / b.2.1) := pk_lDiv (by omega) (by omega) (by omega)
        have ec : (lg_cmp (lN (a.2.1 * 2 ^ 40 / b.2.1 * b.2.1)) (lN (a.2.1 * 2 ^ 40)) = 0) = (a.2.1 * 2 ^ 40 / b.2.1 * b.2.1 = a.2.1 * 2 ^ 40) := by
          rw [lg_cmp_eq]
          exact propext (lN_eqS (by omega) (by omega))
        have hlast : ∀ v : Nat, v = (if a.2.1 * 2 ^ 40 / b.2.1 * b.2.1 = a.2.1 * 2 ^ 40 then 0 else 1) → jm_w S 3 90 80 [.ref 11, .long (lN (a.2.1 * 2 ^ 40)), .null, .long (lN (a.2.1 * 2 ^ 40 / b.2.1)), .null, .null, .null] [.long (lN v)] H Q = Q none H1 := by
          rintro v rfl
          rw [u90_80 t11 (by rw [r2]; decide) (by rw [r0]; decide) (by rw [r0]; exact t12) (by rw [r1]; decide) (by rw [r1]; exact t14) (by rw [r2]; exact t16), r0, r1, r2, a2, a4, b2, b4, jI_mul, lN_or, ← jq_st_if, jI_sub, show (40 : Int32) = jI 40 from by decide, jI_sub, q1]
          simp only [Option.toList_none, List.nil_append]
          rw [u90_126]
        rw [en90, u90_0 t11 (by rw [r0]; decide) (by rw [r0]; exact t12), r0, a1, if_neg (by decide), u90_10 t11 (by rw [r1]; decide) (by rw [r1]; exact t14), r1, b1, if_neg (by decide), u90_20 t11 (by rw [r1]; decide) (by rw [r1]; exact t14), r1, b3, if_pos (by rw [lg_cmp0]; exact hbn),
          u90_40 t11 (by rw [r0]; decide) (by rw [r0]; exact t12) (by rw [r1]; decide) (by rw [r1]; exact t14) (by rw [r1, b3]; exact hbn), r0, r1, a3, b3, eo, ed, lN_mul]
        simp only [ec]
        by_cases hc : a.2.1 * 2 ^ 40 / b.2.1 * b.2.1 = a.2.1 * 2 ^ 40
        · rw [if_neg (fun g => g hc), u90_75]
          exact hlast 0 (by rw [if_pos hc])
        · rw [if_pos hc, u90_79]
          exact hlast 1 (by rw [if_neg hc])
theorem jq_iq_is (q : Nat) : ∀ i r, r * r ≤ q → q < (r + 2 ^ i) * (r + 2 ^ i) → jq_iq q i r * jq_iq q i r ≤ q ∧ q < (jq_iq q i r + 1) * (jq_iq q i r + 1) ∧ jq_iq q i r < r + 2 ^ i
  | 0, r, h1, h2 => by
    rw [jq_iq]
    exact ⟨h1, h2, by have := Nat.two_pow_pos 0; omega⟩
  | i + 1, r, h1, h2 => by
    have hp := Nat.two_pow_pos i
    have e : 2 ^ (i + 1) = 2 ^ i + 2 ^ i := by rw [Nat.pow_succ]; omega
    rw [jq_iq]
    by_cases h : (r + 2 ^ i) * (r + 2 ^ i) ≤ q
    · rw [if_pos h]
      have := jq_iq_is q i (r + 2 ^ i) h (by rw [show r + 2 ^ i + 2 ^ i = r + 2 ^ (i + 1) by omega]; exact h2)
      exact ⟨this.1, this.2.1, by omega⟩
    · rw [if_neg h]
      have := jq_iq_is q i r h1 (by omega)
      exact ⟨this.1, this.2.1, by omega⟩
theorem s78 {q : Nat} (hq : q < 4611686018427387904) {Q : Option Value → jm_H → Prop} : ∀ (i r : Nat) (v : Value), i ≤ 31 → r % 2 ^ i = 0 → r + 2 ^ i ≤ 2147483648 → jm_w S 1 78 6 [.long (lN q), .null, .long (lN r), .null, .int (jI ((i : Int) - 1)), v, .null] [] H Q = Q (some (.long (lN (jq_iq q i r)))) H
  | 0, r, v, _, _, _ => by
    rw [u78_6, if_pos (by decide), u78_38, jq_iq]
  | i + 1, r, v, hi, hr, hb => by
    have hp := Nat.two_pow_pos i
    have e : 2 ^ (i + 1) = 2 ^ i + 2 ^ i := by rw [Nat.pow_succ]; omega
    have ei : jI (((i + 1 : Nat) : Int) - 1) = nI i := by rw [jI_n]; congr 1; omega
    have eor : lN r ||| ((1 : Int64) <<< (Int32.toInt64 (nI i) &&& 63)) = lN (r + 2 ^ i) := by
      rw [lN_p2 (by omega), lN_or]
      have hd : r = 2 ^ (i + 1) * (r / 2 ^ (i + 1)) := by
        have := Nat.div_add_mod r (2 ^ (i + 1))
        omega
      rw [hd, Nat.two_pow_add_eq_or_of_lt (by omega)]
    have hsq : (r + 2 ^ i) * (r + 2 ^ i) < 4611686018427387904 := by
      have h3 : r + 2 ^ i < 2147483648 := by omega
      have := Nat.mul_lt_mul'' h3 h3
      omega
    have hr2 : ∀ z, z % 2 ^ (i + 1) = 0 → z % 2 ^ i = 0 := by
      intro z hz
      have := Nat.mod_mod_of_dvd z (Nat.pow_dvd_pow 2 (Nat.le_succ i))
      rw [← this, hz, Nat.zero_mod]
    rw [ei, u78_6, if_neg (nI_geK (by omega)), u78_11, eor, lN_mul]
    simp only [lg_cmp_gt, lN_ltS (show q < 9223372036854775808 by omega) (show (r + 2 ^ i) * (r + 2 ^ i) < 9223372036854775808 by omega)]
    have ed : nI i + (-1 : Int32) = jI ((i : Int) - 1) := by rw [jI_n, jI_m1, jI_add]; rfl
    rw [jq_iq]
    by_cases h : (r + 2 ^ i) * (r + 2 ^ i) ≤ q
    · rw [if_neg (by omega), if_pos h, u78_29, u78_32, ed, s78 hq i (r + 2 ^ i) _ (by omega) (by
        rw [Nat.add_mod_right]
        exact hr2 r hr) (by omega)]
    · rw [if_pos (by omega), if_neg h, u78_32, ed, s78 hq i r _ (by omega) (hr2 r hr) (by omega)]
theorem c78 {q : Nat} (hq : q < 4611686018427387904) : ∀ Q, jm_c S 78 [.long (lN q)] H Q = Q (some (.long (lN (jq_iq q 31 0)))) H := by
  intro Q
  rw [en78, u78_0]
  exact s78 hq 31 0 .null (by omega) (by decide) (by decide)
theorem c77 {x : Option (Int × Nat × Int)} (st : jm_st H) (hx : jq_is H 12 x) (bx : jq_b 20 100 120 x) : ∃ H1, jq_is H1 16 (jq_rt x) ∧ jf_fr (fun q => q = 16) H H1 ∧ ∀ Q, jm_c S 77 [.ref 11] H Q = Q none H1 := by
  have t11 := st_t11 st
  have t12 := st_t12 st
  have t16 := st_t16 st
  have r0 := st_r11_0 st
  have r2 := st_r11_2 st
  have hnil : jq_rt x = none → (jm_I H 12 1 = 1 ∨ (jm_I H 12 1 = 0 ∧ jm_I H 12 2 < 0)) → ∃ H1, jq_is H1 16 (jq_rt x) ∧ jf_fr (fun q => q = 16) H H1 ∧ ∀ Q, jm_c S 77 [.ref 11] H Q = Q none H1 := by
    intro hn hc
    obtain ⟨H1, i1, f1, q1⟩ := c70' (S := S) (H := H) t16
    refine ⟨H1, by rw [hn]; exact i1, f1, fun Q => ?_⟩
    have e20 : jm_w S 3 77 20 [.ref 11, .null, .null, .null, .null, .null, .null, .null] [] H Q = Q none H1 := by
      rw [u77_20 t11 (by rw [r2]; decide) (by rw [r2]; exact t16), r2, q1]
      simp only [Option.toList_none, List.nil_append]
      rw [u77_27]
    rw [en77, u77_0 t11 (by rw [r0]; decide) (by rw [r0]; exact t12), r0]
    rcases hc with h | ⟨h, h'⟩
    · rw [h, if_pos i1_0, e20]
    · rw [h, if_neg (by decide), u77_10 t11 (by rw [r0]; decide) (by rw [r0]; exact t12), r0, if_neg (by rw [Int32.le_iff_toInt_le]; rw [Int32.lt_iff_toInt_lt] at h'; omega), e20]
  cases x with
  | none => exact hnil rfl (Or.inl hx)
  | some a =>
    obtain ⟨a1, a2, a3, a4⟩ := hx
    obtain ⟨x1, x2, x3, x4, x5⟩ := bx
    by_cases h0 : a.1 < 0
    · have e : jq_rt (some a) = none := by unfold jq_rt; dsimp only; rw [if_pos h0]
      exact hnil e (Or.inr ⟨a1, by rw [a2, jI_0, jI_lt ⟨by omega, by omega⟩ (by decide)]; exact h0⟩)
    · have e : jq_rt (some a) = some (a.1, jq_sr (a.2.1 * 2 ^ (40 + (a.2.2 % 2).toNat)), (a.2.2 - (40 + a.2.2 % 2)) / 2) := by unfold jq_rt; dsimp only; rw [if_neg h0]
      have eup : (40 : Int32) + (jI a.2.2 &&& (1 : Int32)) = nI (40 + (a.2.2 % 2).toNat) := by
        have := nI_mskz a.2.2 (k := 1) (by decide)
        rw [show (nI (2 ^ 1) : Int32) - 1 = 1 from by decide] at this
        rw [this, show (40 : Int32) = jI 40 from by decide, jI_add, jI_n]
        congr 1
        show 40 + a.2.2 % 2 = ((40 + (a.2.2 % 2).toNat : Nat) : Int)
        omega
      have hq : a.2.1 * 2 ^ (40 + (a.2.2 % 2).toNat) < 4611686018427387904 := by
        have h1 : 2 ^ (40 + (a.2.2 % 2).toNat) ≤ 2 ^ 41 := p2_le (by omega)
        have := Nat.mul_le_mul (Nat.le_of_lt x3) h1
        omega
      have hqs := jq_iq_is (a.2.1 * 2 ^ (40 + (a.2.2 % 2).toNat)) 31 0 (by omega) (by omega)
      have hqb : a.2.1 = 0 → jq_iq (a.2.1 * 2 ^ (40 + (a.2.2 % 2).toNat)) 31 0 = 0 := by
        intro h
        rw [h, Nat.zero_mul]
        decide
      have hq0 : ∀ k : Nat, a.2.1 ≠ 0 → jq_iq (a.2.1 * 2 ^ (40 + k)) 31 0 * jq_iq (a.2.1 * 2 ^ (40 + k)) 31 0 ≤ a.2.1 * 2 ^ (40 + k) → a.2.1 * 2 ^ (40 + k) < (jq_iq (a.2.1 * 2 ^ (40 + k)) 31 0 + 1) * (jq_iq (a.2.1 * 2 ^ (40 + k)) 31 0 + 1) → jq_iq (a.2.1 * 2 ^ (40 + k)) 31 0 ≠ 0 := by
        intro k hne _ h2 hz
        rw [hz] at h2
        have hp := Nat.two_pow_pos (40 + k)
        have : 1 * 1 ≤ a.2.1 * 2 ^ (40 + k) := Nat.mul_le_mul (by omega) hp
        omega
      have hsr : jq_sr (a.2.1 * 2 ^ (40 + (a.2.2 % 2).toNat)) < 2 ^ 31 := by
        unfold jq_sr
        apply Nat.or_lt_two_pow
        · omega
        · split <;> decide
      have hsz : jq_sr (a.2.1 * 2 ^ (40 + (a.2.2 % 2).toNat)) = 0 → a.1 = 0 := by
        intro h
        apply x2.mpr
        apply Classical.byContradiction
        intro hne
        have := hq0 (a.2.2 % 2).toNat hne hqs.1 hqs.2.1
        unfold jq_sr at h
        have hl := @Nat.left_le_or (jq_iq (a.2.1 * 2 ^ (40 + (a.2.2 % 2).toNat)) 31 0) (if jq_iq (a.2.1 * 2 ^ (40 + (a.2.2 % 2).toNat)) 31 0 * jq_iq (a.2.1 * 2 ^ (40 + (a.2.2 % 2).toNat)) 31 0 = a.2.1 * 2 ^ (40 + (a.2.2 % 2).toNat) then 0 else 1)
        omega
      obtain ⟨H1, i1, f1, q1⟩ := c48' (S := S) (H := H) (s := a.1) (m := jq_sr (a.2.1 * 2 ^ (40 + (a.2.2 % 2).toNat))) (p := (a.2.2 - (40 + a.2.2 % 2)) / 2) t16 (by omega) hsz
      refine ⟨H1, by rw [e]; exact i1, f1, fun Q => ?_⟩
      have epw : (jI a.2.2 - nI (40 + (a.2.2 % 2).toNat)) >>> ((1 : Int32) &&& 31) = jI ((a.2.2 - (40 + a.2.2 % 2)) / 2) := by
        rw [jI_n, jI_sub]
        have := jI_shr (z := a.2.2 - ((40 + (a.2.2 % 2).toNat : Nat) : Int)) ⟨by omega, by omega⟩ (k := 1) (by decide)
        rw [show jI ((1 : Nat) : Int) = (1 : Int32) from by decide] at this
        rw [this]
        congr 1
        show (a.2.2 - ((40 + (a.2.2 % 2).toNat : Nat) : Int)) / 2 = _
        congr 1
        omega
      have hsqb : jq_iq (a.2.1 * 2 ^ (40 + (a.2.2 % 2).toNat)) 31 0 * jq_iq (a.2.1 * 2 ^ (40 + (a.2.2 % 2).toNat)) 31 0 < 9223372036854775808 := by omega
      have ec : (lg_cmp (lN (jq_iq (a.2.1 * 2 ^ (40 + (a.2.2 % 2).toNat)) 31 0 * jq_iq (a.2.1 * 2 ^ (40 + (a.2.2 % 2).toNat)) 31 0)) (lN (a.2.1 * 2 ^ (40 + (a.2.2 % 2).toNat))) = 0) = (jq_iq (a.2.1 * 2 ^ (40 + (a.2.2 % 2).toNat)) 31 0 * jq_iq (a.2.1 * 2 ^ (40 + (a.2.2 % 2).toNat)) 31 0 = a.2.1 * 2 ^ (40 + (a.2.2 % 2).toNat)) := by
        rw [lg_cmp_eq]
        exact propext (lN_eqS hsqb (by omega))
      have hlast : ∀ v : Nat, v = (if jq_iq (a.2.1 * 2 ^ (40 + (a.2.2 % 2).toNat)) 31 0 * jq_iq (a.2.1 * 2 ^ (40 + (a.2.2 % 2).toNat)) 31 0 = a.2.1 * 2 ^ (40 + (a.2.2 % 2).toNat) then 0 else 1) → jm_w S 3 77 72 [.ref 11, .int (nI (40 + (a.2.2 % 2).toNat)), .long (lN (a.2.1 * 2 ^ (40 + (a.2.2 % 2).toNat))), .null, .long (lN (jq_iq (a.2.1 * 2 ^ (40 + (a.2.2 % 2).toNat)) 31 0)), .null, .null, .null] [.long (lN v)] H Q = Q none H1 := by
        rintro v rfl
        rw [u77_72 t11 (by rw [r2]; decide) (by rw [r0]; decide) (by rw [r0]; exact t12) (by rw [r2]; exact t16), r0, r2, a2, a4, epw, lN_or]
        show jm_c S 48 [.ref 16, .int (jI a.1), .long (lN (jq_sr (a.2.1 * 2 ^ (40 + (a.2.2 % 2).toNat)))), .int (jI ((a.2.2 - (40 + a.2.2 % 2)) / 2))] H _ = _
        rw [q1]
        simp only [Option.toList_none, List.nil_append]
        rw [u77_104]
      rw [en77, u77_0 t11 (by rw [r0]; decide) (by rw [r0]; exact t12), r0, a1, if_neg (by decide), u77_10 t11 (by rw [r0]; decide) (by rw [r0]; exact t12), r0, a2, if_pos (by rw [jI_0, jI_le (by decide) ⟨by omega, by omega⟩]; omega), u77_28 t11 (by rw [r0]; decide) (by rw [r0]; exact t12), r0, a3, a4, eup, lN_shl _ (by omega), c78 hq]
      simp only [Option.toList_some, List.cons_append, List.nil_append]
      rw [u77_55, lN_mul]
      simp only [ec]
      by_cases hc : jq_iq (a.2.1 * 2 ^ (40 + (a.2.2 % 2).toNat)) 31 0 * jq_iq (a.2.1 * 2 ^ (40 + (a.2.2 % 2).toNat)) 31 0 = a.2.1 * 2 ^ (40 + (a.2.2 % 2).toNat)
      · rw [if_neg (fun g => g hc), u77_67]
        exact hlast 0 (by rw [if_pos hc])
      · rw [if_pos hc, u77_71]
        exact hlast 1 (by rw [if_neg hc])
end OPS
