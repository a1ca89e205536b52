set_option maxRecDepth 20000
/-! the class's sum of two -/
theorem jq_mv_lt {m : Nat} {t : Int} {k : Nat} (h0 : 0 < m) (hk : (Nat.log2 m : Int) + 1 + t ≤ k) (hk2 : 26 ≤ k) (hm : m < 2 ^ 24) : jq_mv m t < 2 ^ k := by
  have a1 : m < 2 ^ (Nat.log2 m + 1) := Nat.lt_log2_self
  unfold jq_mv
  by_cases h : 0 ≤ t
  · rw [if_pos h]
    have := (Nat.mul_lt_mul_right (Nat.two_pow_pos t.toNat)).mpr a1
    rw [← Nat.pow_add] at this
    exact Nat.lt_of_lt_of_le this (p2_le (by omega))
  · rw [if_neg h]
    have h1 := jq_st_le m (2 ^ (-t).toNat)
    have h2 : m / 2 ^ (-t).toNat ≤ m := Nat.div_le_self _ _
    have h3 : 2 ^ 26 ≤ 2 ^ k := p2_le hk2
    omega
section SUM
variable {S : Option (Nat × (Nat → Int32))} {H : jm_H}
theorem t88 {hi lo : Nat} {a b : Int × Nat × Int} {x1 : Int32} (st : jm_st H) (th : jm_tg H hi = 3) (tl : jm_tg H lo = 3) (ha : jq_is H hi (some a)) (hb : jq_is H lo (some b)) (ba : jq_b 24 100 120 (some a)) (bb : jq_b 24 100 120 (some b)) (na : a.1 ≠ 0) (nb : b.1 ≠ 0) (hs : (Nat.log2 b.2.1 : Int) + b.2.2 ≤ Nat.log2 a.2.1 + a.2.2) : ∃ H1, jq_is H1 16 (some (jq_addh a b)) ∧ jf_fr (fun q => q = 16) H H1 ∧ ∀ Q, jm_w S 4 88 131 [.ref 11, .int x1, .ref hi, .null, .null, .null, .null, .null, .null, .null, .null, .null] [.ref lo] H Q = Q none H1 := by
  have t11 := st_t11 st
  have t16 := st_t16 st
  have r2 := st_r11_2 st
  obtain ⟨a1, a2, a3, a4⟩ := ha
  obtain ⟨b1, b2, b3, b4⟩ := hb
  obtain ⟨s, m, p⟩ := a
  obtain ⟨s', m', p'⟩ := b
  obtain ⟨x1', x2, x3, x4, x5⟩ := ba
  obtain ⟨y1, y2, y3, y4, y5⟩ := bb
  dsimp only at *
  have m0 : 0 < m := by
    rcases Nat.eq_zero_or_pos m with h | h
    · exact absurd (x2.mpr h) na
    · exact h
  have m0' : 0 < m' := by
    rcases Nat.eq_zero_or_pos m' with h | h
    · exact absurd (y2.mpr h) nb
    · exact h
  have hl := lg_le m0 x3
  have hl' := lg_le m0' y3
  have hbig : m * 2 ^ (57 - Nat.log2 m) < 2 ^ 58 := by
    have a1 : m < 2 ^ (Nat.log2 m + 1) := Nat.lt_log2_self
    have := (Nat.mul_lt_mul_right (Nat.two_pow_pos (57 - Nat.log2 m))).mpr a1
    rw [← Nat.pow_add, show Nat.log2 m + 1 + (57 - Nat.log2 m) = 58 by omega] at this
    exact this
  have hsm : jq_mv m' (p' - (p - ((57 - Nat.log2 m : Nat) : Int))) < 2 ^ 58 := jq_mv_lt m0' (by omega) (by decide) y3
  have eup : (58 : Int32) - nI (Nat.log2 m + 1) = nI (57 - Nat.log2 m) := by
    rw [show (58 : Int32) = nI 58 from rfl, pk_sub (by omega), show 58 - (Nat.log2 m + 1) = 57 - Nat.log2 m by omega]
  have elarge : jq_mv m ((57 - Nat.log2 m : Nat) : Int) = m * 2 ^ (57 - Nat.log2 m) := by
    unfold jq_mv
    rw [if_pos (by omega), Int.toNat_natCast]
  have epw : jI p - nI (57 - Nat.log2 m) = jI (p - ((57 - Nat.log2 m : Nat) : Int)) := by rw [jI_n, jI_sub]
  -- what is added
  have hz : ∃ z : Int, z = (if s = s' then ((m * 2 ^ (57 - Nat.log2 m) : Nat) : Int) + (jq_mv m' (p' - (p - ((57 - Nat.log2 m : Nat) : Int))) : Nat) else ((m * 2 ^ (57 - Nat.log2 m) : Nat) : Int) - (jq_mv m' (p' - (p - ((57 - Nat.log2 m : Nat) : Int))) : Nat)) := ⟨_, rfl⟩
  obtain ⟨z, hz⟩ := hz
  have hzb : -576460752303423488 < z ∧ z < 576460752303423488 := by
    rw [hz]
    split <;> omega
  have ea : jq_addh (s, m, p) (s', m', p') = (if z = 0 then 0 else if z < 0 then -s else s, z.natAbs, p - ((57 - Nat.log2 m : Nat) : Int)) := by
    unfold jq_addh
    dsimp only
    rw [← hz]
  obtain ⟨H1, i1, f1, q1⟩ := c48g (S := S) (H := H) (s := if z < 0 then -s else s) (m := z.natAbs) (p := p - ((57 - Nat.log2 m : Nat) : Int)) t16 (by omega)
  refine ⟨H1, ?_, f1, fun Q => ?_⟩
  · rw [ea]
    have e : (if z = 0 then (0 : Int) else if z < 0 then -s else s) = (if z.natAbs = 0 then 0 else if z < 0 then -s else s) := by
      by_cases h : z = 0
      · rw [if_pos h, if_pos (show z.natAbs = 0 by omega)]
      · rw [if_neg h, if_neg (show ¬ z.natAbs = 0 by omega)]
    rw [e]
    exact i1
  · have h204 : jm_w S 4 88 204 [.ref 11, .int x1, .ref hi, .ref lo, .int (nI (57 - Nat.log2 m)), .int (jI (p - ((57 - Nat.log2 m : Nat) : Int))), .long (lN (m * 2 ^ (57 - Nat.log2 m))), .null, .long (lN (jq_mv m' (p' - (p - ((57 - Nat.log2 m : Nat) : Int))))), .null, .null, .null] [.long (lI z)] H Q = Q none H1 := by
      rw [u88_204 t11 (by rw [r2]; decide), r2, lN_0L, lI_n]
      simp only [lg_cmp_ge, lI_le (show l6 ((0 : Nat) : Int) by decide) (show l6 z from ⟨by omega, by omega⟩)]
      by_cases h : z < 0
      · rw [if_neg (by omega), u88_217 th, a2, jI_neg, u88_229, c47 ⟨by omega, by omega⟩]
        simp only [Option.toList_some, List.cons_append, List.nil_append]
        rw [if_pos h] at q1
        rw [u88_234 t16, ← lI_n, q1]
        simp only [Option.toList_none, List.nil_append]
        rw [u88_239]
      · rw [if_pos (by omega), u88_225 th, a2, u88_229, c47 ⟨by omega, by omega⟩]
        simp only [Option.toList_some, List.cons_append, List.nil_append]
        rw [if_neg h] at q1
        rw [u88_234 t16, ← lI_n, q1]
        simp only [Option.toList_none, List.nil_append]
        rw [u88_239]
    have zs : (jI s = jI s') = (s = s') := propext (jI_eq ⟨by omega, by omega⟩ ⟨by omega, by omega⟩)
    rw [u88_131 th, a3, c53 m0 (by omega)]
    simp only [Option.toList_some, List.cons_append, List.nil_append]
    rw [u88_141 th, eup, a3, a4, jI_n (57 - Nat.log2 m), c56 (by omega) (by omega) (by omega), elarge, jI_sub, ← jI_n]
    simp only [Option.toList_some, List.cons_append, List.nil_append]
    rw [u88_162 tl, b3, b4, jI_sub, c56 (by omega) (by omega) (by omega)]
    simp only [Option.toList_some, List.cons_append, List.nil_append]
    rw [u88_178 th tl, a2, b2]
    simp only [zs]
    by_cases h : s = s'
    · rw [if_neg (fun g => g h), u88_191, lN_add]
      have : lN (m * 2 ^ (57 - Nat.log2 m) + jq_mv m' (p' - (p - ((57 - Nat.log2 m : Nat) : Int)))) = lI z := by
        rw [hz, if_pos h, lI_n, Int.natCast_add]
      rw [this]
      exact h204
    · rw [if_pos h, u88_199]
      have : lN (m * 2 ^ (57 - Nat.log2 m)) - lN (jq_mv m' (p' - (p - ((57 - Nat.log2 m : Nat) : Int)))) = lI z := by
        rw [hz, if_neg h, lI_n, lI_n, lI_sub]
      rw [this]
      exact h204
theorem c88 {x y : Option (Int × Nat × Int)} (st : jm_st H) (hx : jq_is H 12 x) (hy : jq_is H 14 y) (bx : jq_b 24 100 120 x) (bz : jq_b 24 100 120 y) : ∃ H1, jq_is H1 16 (jq_add x y) ∧ jf_fr (fun q => q = 16) H H1 ∧ ∀ Q, jm_c S 88 [.ref 11] H Q = Q none H1 := by
  have t11 := st_t11 st
  have t12 := st_t12 st
  have t14 := st_t14 st
  have t16 := st_t16 st
  have r0 := st_r11_0 st
  have r1 := st_r11_1 st
  have r2 := st_r11_2 st
  have hnil : jq_add x y = none → (jm_I H 12 1 = 1 ∨ (jm_I H 12 1 = 0 ∧ jm_I H 14 1 = 1)) → ∃ H1, jq_is H1 16 (jq_add x y) ∧ jf_fr (fun q => q = 16) H H1 ∧ ∀ Q, jm_c S 88 [.ref 11] H Q = Q none H1 := by
    intro hn hc
    obtain ⟨H1, i1, f1, q1⟩ := c70' (S := S) (H := H) t16
    refine ⟨H1, by rw [hn]; exact i1, f1, fun Q => ?_⟩
    have e20 : jm_w S 4 88 20 [.ref 11, .null, .null, .null, .null, .null, .null, .null, .null, .null, .null, .null] [] H Q = Q none H1 := by
      rw [u88_20 t11 (by rw [r2]; decide) (by rw [r2]; exact t16), r2, q1]
      simp only [Option.toList_none, List.nil_append]
      rw [u88_27]
    rw [en88, u88_0 t11 (by rw [r0]; decide) (by rw [r0]; exact t12), r0]
    rcases hc with h | ⟨h, h'⟩
    · rw [h, if_pos i1_0, e20]
    · rw [h, if_neg (by decide), u88_10 t11 (by rw [r1]; decide) (by rw [r1]; exact t14), r1, h', if_neg i1_0, e20]
  cases x with
  | none => exact hnil rfl (Or.inl hx)
  | some a =>
    cases y with
    | none => exact hnil rfl (Or.inr ⟨hx.1, hy⟩)
    | some b =>
      have ax := hx
      have ay := hy
      obtain ⟨a1, a2, a3, a4⟩ := hx
      obtain ⟨b1, b2, b3, b4⟩ := hy
      have x1 := bx.1
      have x2 := bx.2.1
      have x3 := bx.2.2.1
      have x4 := bx.2.2.2.1
      have y1 := bz.1
      have y2 := bz.2.1
      have y3 := bz.2.2.1
      have y4 := bz.2.2.2.1
      have za : (jI a.1 = (0 : Int32)) = (a.1 = 0) := propext (jI_eq (b := 0) ⟨by omega, by omega⟩ (by decide))
      have zb : (jI b.1 = (0 : Int32)) = (b.1 = 0) := propext (jI_eq (b := 0) ⟨by omega, by omega⟩ (by decide))
      have start : ∀ Q, jm_c S 88 [.ref 11] H Q = if a.1 = 0 then jm_w S 4 88 48 [.ref 11, .null, .null, .null, .null, .null, .null, .null, .null, .null, .null, .null] [] H Q else if ¬ b.1 = 0 then jm_w S 4 88 77 [.ref 11, .null, .null, .null, .null, .null, .null, .null, .null, .null, .null, .null] [] H Q else jm_w S 4 88 48 [.ref 11, .null, .null, .null, .null, .null, .null, .null, .null, .null, .null, .null] [] H Q := by
        intro Q
        rw [en88, u88_0 t11 (by rw [r0]; decide) (by rw [r0]; exact t12), r0, a1, if_neg (by decide), u88_10 t11 (by rw [r1]; decide) (by rw [r1]; exact t14), r1, b1, if_pos rfl, u88_28 t11 (by rw [r0]; decide) (by rw [r0]; exact t12), r0, a2, u88_38 t11 (by rw [r1]; decide) (by rw [r1]; exact t14), r1, b2]
        simp only [za, zb]
      by_cases h0 : a.1 = 0
      · have e : jq_add (some a) (some b) = some b := by unfold jq_add; dsimp only; rw [if_pos h0]
        obtain ⟨H1, i1, f1, q1⟩ := c51 (S := S) t16 t14 ay ⟨y1, y2, by omega, by omega, by omega, fun h => by
          have hl := lg_le (k := 24) (x := b.2.1) (by rcases Nat.eq_zero_or_pos b.2.1 with g | g; exact absurd (y2.mpr g) h; exact g) y3
          omega⟩ (Or.inl (by decide))
        refine ⟨H1, by rw [e]; exact i1, f1, fun Q => ?_⟩
        rw [start, if_pos h0, u88_48 t11 (by rw [r2]; decide) (by rw [r0]; decide) (by rw [r0]; exact t12), r0, r2, a2, if_neg (by rw [za]; exact fun g => g h0), u88_62 t11 (by rw [r1]; decide), r1, u88_73 t16, q1]
        simp only [Option.toList_none, List.nil_append]
        rw [u88_76]
      · by_cases h1 : b.1 = 0
        · have e : jq_add (some a) (some b) = some a := by unfold jq_add; dsimp only; rw [if_neg h0, if_pos h1]
          obtain ⟨H1, i1, f1, q1⟩ := c51 (S := S) t16 t12 ax ⟨x1, x2, by omega, by omega, by omega, fun h => by
            have hl := lg_le (k := 24) (x := a.2.1) (by rcases Nat.eq_zero_or_pos a.2.1 with g | g; exact absurd (x2.mpr g) h; exact g) x3
            omega⟩ (Or.inl (by decide))
          refine ⟨H1, by rw [e]; exact i1, f1, fun Q => ?_⟩
          rw [start, if_neg h0, if_neg (fun g => g h1), u88_48 t11 (by rw [r2]; decide) (by rw [r0]; decide) (by rw [r0]; exact t12), r0, r2, a2, if_pos (by rw [za]; exact h0), u88_69 t11 (by rw [r0]; decide), r0, u88_73 t16, q1]
          simp only [Option.toList_none, List.nil_append]
          rw [u88_76]
        · have ma : 0 < a.2.1 := by
            rcases Nat.eq_zero_or_pos a.2.1 with h | h
            · exact absurd (x2.mpr h) h0
            · exact h
          have mb : 0 < b.2.1 := by
            rcases Nat.eq_zero_or_pos b.2.1 with h | h
            · exact absurd (y2.mpr h) h1
            · exact h
          have la := lg_le ma x3
          have lb := lg_le mb y3
          have go : ∀ Q, jm_c S 88 [.ref 11] H Q = if (Nat.log2 a.2.1 : Int) + a.2.2 < Nat.log2 b.2.1 + b.2.2 then jm_w S 4 88 131 [.ref 11, .int 0, .ref 14, .null, .null, .null, .null, .null, .null, .null, .null, .null] [.ref 12] H Q else jm_w S 4 88 131 [.ref 11, .int 1, .ref 12, .null, .null, .null, .null, .null, .null, .null, .null, .null] [.ref 14] H Q := by
            intro Q
            rw [start, if_neg h0, if_pos h1, u88_77 t11 (by rw [r0]; decide) (by rw [r0]; exact t12), r0, c59 t12 a3 a4 ma (by omega)]
            simp only [Option.toList_some, List.append_nil]
            rw [u88_84 t11 (by rw [r1]; decide) (by rw [r1]; exact t14), r1, c59 t14 b3 b4 mb (by omega)]
            simp only [Option.toList_some, List.cons_append, List.nil_append]
            rw [u88_91, if_ltI ⟨by omega, by omega⟩ ⟨by omega, by omega⟩]
            by_cases hs : (Nat.log2 a.2.1 : Int) + a.2.2 < Nat.log2 b.2.1 + b.2.2
            · rw [if_pos hs, if_pos hs, u88_98, u88_99, if_pos rfl, u88_111 t11 (by rw [r1]; decide), r1, u88_115, if_pos rfl, u88_127 t11 (by rw [r0]; decide), r0]
            · rw [if_neg hs, if_neg hs, u88_94, u88_99, if_neg i1_0, u88_104 t11 (by rw [r0]; decide), r0, u88_115, if_neg i1_0, u88_120 t11 (by rw [r1]; decide), r1]
          by_cases hs : (Nat.log2 a.2.1 : Int) + a.2.2 < Nat.log2 b.2.1 + b.2.2
          · have e : jq_add (some a) (some b) = some (jq_addh b a) := by unfold jq_add; dsimp only; rw [if_neg h0, if_neg h1, if_neg (by omega)]
            obtain ⟨H1, i1, f1, q1⟩ := t88 (S := S) (x1 := 0) st t14 t12 ay ax bz bx h1 h0 (by omega)
            exact ⟨H1, by rw [e]; exact i1, f1, fun Q => by rw [go, if_pos hs]; exact q1 Q⟩
          · have e : jq_add (some a) (some b) = some (jq_addh a b) := by unfold jq_add; dsimp only; rw [if_neg h0, if_neg h1, if_pos (by omega)]
            obtain ⟨H1, i1, f1, q1⟩ := t88 (S := S) (x1 := 1) st t12 t14 ax ay bx bz h0 h1 (by omega)
            exact ⟨H1, by rw [e]; exact i1, f1, fun Q => by rw [go, if_neg hs]; exact q1 Q⟩
end SUM
