set_option maxRecDepth 20000
/-! what is cut off doesn't matter to a row, nor halfway -/
/-- an even number against a quotient with its last bit set for the rest -/
theorem jq_st_cmp {x d y : Nat} (hd : 0 < d) (hy : y % 2 = 0) : jq_cmp (jq_st x d) y = jq_cmp x (y * d) := by
  have hdm := Nat.div_add_mod x d
  have hml := Nat.mod_lt x hd
  by_cases h : x % d = 0
  · have e : jq_st x d = x / d := by
      unfold jq_st
      rw [if_pos h, Nat.or_zero]
    have ex : x = x / d * d := by
      rw [Nat.mul_comm]
      omega
    rw [e]
    conv => rhs; rw [ex]
    rw [jq_cmp_mul hd]
  · have hlo : x / d ≤ jq_st x d := Nat.left_le_or
    have hhi := jq_st_le x d
    have hodd : jq_st x d % 2 = 1 := by
      unfold jq_st
      rw [if_neg h, Nat.or_mod_two_eq_one]
      exact Or.inr (by decide)
    have key : ∀ z : Nat, z ≤ x / d ↔ z * d ≤ x := fun z => Nat.le_div_iff_mul_le hd
    have k1 := key y
    have k2 := key (y - 1)
    have hne : ¬ x = y * d := by
      intro hx
      apply h
      rw [hx, Nat.mul_mod_left]
    apply jq_cmp_congr
    · constructor
      · intro g
        have : ¬ y ≤ x / d := by omega
        rw [k1] at this
        omega
      · intro g
        have : ¬ y ≤ x / d := by
          rw [k1]
          omega
        omega
    · constructor
      · intro g
        have : y ≤ x / d := by omega
        rw [k1] at this
        omega
      · intro g
        have : y ≤ x / d := by
          rw [k1]
          omega
        omega
theorem jq_v_le {m : Nat} {p q : Int} (h : p ≤ q) : jq_v m p ≤ jq_v m q := Nat.mul_le_mul_left m (p2_le (by omega))
theorem jq_v_lt1 {m m' : Nat} {p : Int} (h : m < m') : jq_v m p < jq_v m' p := (Nat.mul_lt_mul_right (Nat.two_pow_pos _)).mpr h
/-- the same for powers of 2 on both sides -/
theorem jq_v_add (a b : Nat) {p q : Int} (c : Nat) (hp : -256 ≤ p) (hq : -256 ≤ q) : jq_cmp (jq_v a (p + c)) (jq_v b (q + c)) = jq_cmp (jq_v a p) (jq_v b q) := by
  have e : ∀ (m : Nat) (r : Int), -256 ≤ r → jq_v m (r + c) = jq_v m r * 2 ^ c := by
    intro m r hr
    unfold jq_v
    rw [show (r + c + 256).toNat = (r + 256).toNat + c by omega, Nat.pow_add, Nat.mul_assoc]
  rw [e a p hp, e b q hq, jq_cmp_mul (Nat.two_pow_pos _)]
/-- a quotient against a row's value -/
theorem jq_qt {X d m : Nat} {p q : Int} (hd : 0 < d) (hX : d * 8192 ≤ X) (hm : m < 8192) (hp : -256 ≤ p) (hq : -256 ≤ q) : jq_cmp (jq_v (jq_st X d) p) (jq_v m q) = jq_cmp (jq_v X p) (jq_v (d * m) q) := by
  by_cases h : p < q
  · obtain ⟨k, hk, rfl⟩ : ∃ k : Nat, 1 ≤ k ∧ q = p + k := ⟨(q - p).toNat, by omega, by omega⟩
    rw [← jq_v_sh _ _ hp, ← jq_v_sh _ _ hp, jq_v_cmp, jq_v_cmp, jq_st_cmp hd, Nat.mul_right_comm, Nat.mul_comm d m, Nat.mul_right_comm]
    obtain ⟨j, rfl⟩ : ∃ j, k = j + 1 := ⟨k - 1, by omega⟩
    rw [Nat.pow_succ, ← Nat.mul_assoc, Nat.mul_mod_left]
  · have h1 : 8192 ≤ X / d := (Nat.le_div_iff_mul_le hd).mpr (by rw [Nat.mul_comm]; exact hX)
    have h2 : X / d ≤ jq_st X d := Nat.left_le_or
    have h3 : d * m < X := Nat.lt_of_lt_of_le ((Nat.mul_lt_mul_left hd).mpr hm) hX
    rw [jq_cmp_gt (Nat.lt_of_le_of_lt (jq_v_le (by omega)) (jq_v_lt1 (show m < jq_st X d by omega))), jq_cmp_gt (Nat.lt_of_le_of_lt (jq_v_le (by omega)) (jq_v_lt1 h3))]
/-- 45 bits are enough -/
theorem jq_sq_v {m a : Nat} {p q : Int} (h0 : 0 < m) (ha : a < 8192) (hp : -256 ≤ p) (hq : -200 ≤ q) (hm : m < 4611686018427387904) : jq_cmp (jq_v (jq_sq m p).1 (jq_sq m p).2) (jq_v a q) = jq_cmp (jq_v m p) (jq_v a q) := by
  have hl := lg_le (k := 62) h0 hm
  unfold jq_sq
  by_cases h : Nat.log2 m + 1 ≤ 45
  · rw [if_pos h]
  · rw [if_neg h]
    dsimp only
    obtain ⟨t, ht, e⟩ : ∃ t : Nat, t ≤ 17 ∧ Nat.log2 m + 1 - 45 = t := ⟨_, by omega, rfl⟩
    rw [e]
    have h1 : 2 ^ t * 8192 ≤ m := by
      have a2 := Nat.log2_self_le (n := m) (by omega)
      have h2 : 2 ^ t * 2 ^ 13 ≤ 2 ^ Nat.log2 m := by
        rw [← Nat.pow_add]
        exact p2_le (by omega)
      omega
    have hq2 := jq_qt (X := m) (d := 2 ^ t) (m := a) (p := p) (q := q - t) (Nat.two_pow_pos t) h1 ha hp (by omega)
    rw [Nat.mul_comm, jq_v_sh _ _ (by omega), show q - (t : Int) + t = q by omega] at hq2
    rw [← hq2, ← jq_v_add (p := p) (q := q - t) _ _ t hp (by omega), show q - (t : Int) + t = q by omega]
/-- an even number against a root with its last bit set for the rest -/
theorem jq_sr_cmp {q y : Nat} (hq : q < 4611686018427387904) (hy : y % 2 = 0) : jq_cmp (jq_sr q) y = jq_cmp q (y * y) := by
  obtain ⟨h1, h2, h3⟩ := jq_iq_is q 31 0 (by omega) (by omega)
  unfold jq_sr
  generalize jq_iq q 31 0 = r at *
  have mono : ∀ a b : Nat, a ≤ b → a * a ≤ b * b := fun a b h => Nat.mul_le_mul h h
  by_cases h : r * r = q
  · rw [if_pos h, Nat.or_zero, ← h]
    rcases Nat.lt_trichotomy r y with g | g | g
    · rw [jq_cmp_lt g, jq_cmp_lt (Nat.mul_lt_mul'' g g)]
    · rw [g, jq_cmp_eq, jq_cmp_eq]
    · rw [jq_cmp_gt g, jq_cmp_gt (Nat.mul_lt_mul'' g g)]
  · rw [if_neg h]
    have hlo : r ≤ r ||| 1 := Nat.left_le_or
    have hhi : r ||| 1 ≤ r + 1 := by
      have := jq_st_le (2 * r + 1) 2
      unfold jq_st at this
      rw [show (2 * r + 1) / 2 = r by omega, show (2 * r + 1) % 2 = 1 by omega, if_neg (by decide)] at this
      exact this
    have hodd : (r ||| 1) % 2 = 1 := by
      rw [Nat.or_mod_two_eq_one]
      exact Or.inr (by decide)
    by_cases g : y ≤ r
    · have := mono y r g
      rw [jq_cmp_gt (show y < r ||| 1 by omega), jq_cmp_gt (show y * y < q by omega)]
    · have := mono (r + 1) y (by omega)
      rw [jq_cmp_lt (show r ||| 1 < y by omega), jq_cmp_lt (show q < y * y by omega)]
theorem jq_rtv {q m : Nat} {p w : Int} (hq : q < 4611686018427387904) (hq2 : 67108864 ≤ q) (hm : m < 8192) (hp : -128 ≤ p) (hw : -128 ≤ w) : jq_cmp (jq_v (jq_sr q) p) (jq_v m w) = jq_cmp (jq_v q (2 * p)) (jq_v (m * m) (2 * w)) := by
  by_cases h : p < w
  · obtain ⟨k, hk, rfl⟩ : ∃ k : Nat, 1 ≤ k ∧ w = p + k := ⟨(w - p).toNat, by omega, by omega⟩
    rw [show 2 * (p + (k : Int)) = 2 * p + ((k + k : Nat) : Int) by omega, ← jq_v_sh _ _ (by omega), ← jq_v_sh _ _ (by omega), jq_v_cmp, jq_v_cmp, jq_sr_cmp hq, Nat.pow_add]
    · congr 1
      ac_rfl
    · obtain ⟨j, rfl⟩ : ∃ j, k = j + 1 := ⟨k - 1, by omega⟩
      rw [Nat.pow_succ, ← Nat.mul_assoc, Nat.mul_mod_left]
  · obtain ⟨h1, h2, h3⟩ := jq_iq_is q 31 0 (by omega) (by omega)
    have hr : 8192 ≤ jq_iq q 31 0 := by
      apply Classical.byContradiction
      intro hlt
      have : (jq_iq q 31 0 + 1) * (jq_iq q 31 0 + 1) ≤ 8192 * 8192 := Nat.mul_le_mul (by omega) (by omega)
      omega
    have hs : jq_iq q 31 0 ≤ jq_sr q := Nat.left_le_or
    have hmm : m * m < 8192 * 8192 := Nat.mul_lt_mul'' hm hm
    rw [jq_cmp_gt (Nat.lt_of_le_of_lt (jq_v_le (by omega)) (jq_v_lt1 (show m < jq_sr q by omega))), jq_cmp_gt (Nat.lt_of_le_of_lt (jq_v_le (by omega)) (jq_v_lt1 (show m * m < q by omega)))]
/-! sums -/
/-- a number's worth in units of 2 to the -112 -/
def jq_zn (m : Nat) (p : Int) : Nat := m * 2 ^ (p + 112).toNat
theorem jq_zn_v {m : Nat} {p : Int} (hp : -112 ≤ p) : jq_zn m p * 2 ^ 144 = jq_v m p := by
  unfold jq_zn jq_v
  rw [Nat.mul_assoc, ← Nat.pow_add, show (p + 112).toNat + 144 = (p + 256).toNat by omega]
theorem jq_mv_pos {m : Nat} {t : Int} (h : 0 < m) : 0 < jq_mv m t := by
  unfold jq_mv
  split
  · exact Nat.mul_pos h (Nat.two_pow_pos _)
  · exact jq_st_pos h
/-- large and small, told apart or together, against an even number: as if nothing had been cut off -/
theorem jq_add_cmp {L b D y : Nat} (hD : 0 < D) (hL : L % 2 = 0) (hy : y % 2 = 0) (hb : 0 < b) : jq_cmp (L + jq_st b D) y = jq_cmp (L * D + b) (y * D) := by
  have hs := jq_st_pos (x := b) (d := D) hb
  by_cases h : y ≤ L
  · have h1 : y * D ≤ L * D := Nat.mul_le_mul_right D h
    rw [jq_cmp_gt (by omega), jq_cmp_gt (by omega)]
  · obtain ⟨w, rfl⟩ : ∃ w, y = L + w := ⟨y - L, by omega⟩
    rw [jq_cmp_add, jq_st_cmp hD (by omega), Nat.add_mul, jq_cmp_add]
theorem jq_sub_cmp {L b D y : Nat} (hD : 0 < D) (hL : L % 2 = 0) (hy : y % 2 = 0) (hb : 0 < b) (h1 : jq_st b D ≤ L) (h2 : b ≤ L * D) : jq_cmp (L - jq_st b D) y = jq_cmp (L * D - b) (y * D) := by
  have hs := jq_st_pos (x := b) (d := D) hb
  by_cases h : L ≤ y
  · have h3 : L * D ≤ y * D := Nat.mul_le_mul_right D h
    rw [jq_cmp_lt (by omega), jq_cmp_lt (by omega)]
  · obtain ⟨w, hw, rfl⟩ : ∃ w, w % 2 = 0 ∧ L = y + w := ⟨L - y, by omega, by omega⟩
    have hc := jq_st_cmp (x := b) (d := D) (y := w) hD hw
    have e : (y + w) * D = y * D + w * D := Nat.add_mul ..
    rw [e] at h2 ⊢
    rcases Nat.lt_trichotomy b (w * D) with g | g | g
    · rw [jq_cmp_lt g] at hc
      have : jq_st b D < w := by
        rcases Nat.lt_trichotomy (jq_st b D) w with q | q | q
        · exact q
        · rw [q, jq_cmp_eq] at hc; cases hc
        · rw [jq_cmp_gt q] at hc; cases hc
      rw [jq_cmp_gt (by omega), jq_cmp_gt (by omega)]
    · rw [g, jq_cmp_eq] at hc
      have : jq_st b D = w := by
        rcases Nat.lt_trichotomy (jq_st (w * D) D) w with q | q | q
        · rw [jq_cmp_lt q] at hc; cases hc
        · rw [g]; exact q
        · rw [jq_cmp_gt q] at hc; cases hc
      rw [this, g, Nat.add_sub_cancel, Nat.add_sub_cancel, jq_cmp_eq, jq_cmp_eq]
    · rw [jq_cmp_gt g] at hc
      have : w < jq_st b D := by
        rcases Nat.lt_trichotomy (jq_st b D) w with q | q | q
        · rw [jq_cmp_lt q] at hc; cases hc
        · rw [q, jq_cmp_eq] at hc; cases hc
        · exact q
      rw [jq_cmp_lt (by omega), jq_cmp_lt (by omega)]
/-- the class's sum of two stands for their sum -/
theorem jq_addh_v {s s' : Int} {m m' : Nat} {p p' : Int} (hs : s = -1 ∨ s = 1) (hs' : s' = -1 ∨ s' = 1) (h0 : 0 < m) (h0' : 0 < m') (hm : m < 2 ^ 24) (hm' : m' < 2 ^ 24) (hp : -112 ≤ p ∧ p ≤ 112) (hp' : -112 ≤ p' ∧ p' ≤ 112) (hsc : (Nat.log2 m' : Int) + p' ≤ Nat.log2 m + p) :
    (jq_addh (s, m, p) (s', m', p')).1 = jq_sg (s * jq_zn m p + s' * jq_zn m' p') ∧ ∀ (a : Nat) (q : Int), a < 8192 → -112 ≤ q → q ≤ 112 → jq_cmp (s * jq_zn m p + s' * jq_zn m' p').natAbs (jq_zn a q) = jq_cmp (jq_v (jq_addh (s, m, p) (s', m', p')).2.1 (jq_addh (s, m, p) (s', m', p')).2.2) (jq_v a q) := by
  have hl := lg_le h0 hm
  have hl' := lg_le h0' hm'
  have g1 := jq_zn_v (m := m) hp.1
  have g2 := jq_zn_v (m := m') hp'.1
  have a1 : m < 2 ^ (Nat.log2 m + 1) := Nat.lt_log2_self
  have a2 := Nat.log2_self_le (n := m) (by omega)
  obtain ⟨up, hup, hupe⟩ : ∃ up : Nat, 57 - Nat.log2 m = up ∧ 34 ≤ up ∧ up ≤ 57 := ⟨_, rfl, by omega, by omega⟩
  have hP : -256 ≤ p - (up : Int) := by omega
  -- large, in units of the class's power
  have eL : jq_v m p = jq_v (m * 2 ^ up) (p - up) := by
    rw [jq_v_sh _ _ hP, show p - (up : Int) + up = p by omega]
  have hLb : 2 ^ 57 ≤ m * 2 ^ up := by
    have := Nat.mul_le_mul_right (2 ^ up) a2
    rw [← Nat.pow_add, show Nat.log2 m + up = 57 by omega] at this
    exact this
  have hLe : m * 2 ^ up % 2 = 0 := by
    obtain ⟨j, rfl⟩ : ∃ j, up = j + 1 := ⟨up - 1, by omega⟩
    rw [Nat.pow_succ, ← Nat.mul_assoc, Nat.mul_mod_left]
  have hz144 : (0 : Nat) < 2 ^ 144 := Nat.two_pow_pos _
  have hsm := jq_mv_pos (m := m') (t := p' - (p - (up : Int))) h0'
  have eadd : jq_addh (s, m, p) (s', m', p') = (if (if s = s' then ((m * 2 ^ up : Nat) : Int) + (jq_mv m' (p' - (p - (up : Int))) : Nat) else ((m * 2 ^ up : Nat) : Int) - (jq_mv m' (p' - (p - (up : Int))) : Nat)) = 0 then 0 else if (if s = s' then ((m * 2 ^ up : Nat) : Int) + (jq_mv m' (p' - (p - (up : Int))) : Nat) else ((m * 2 ^ up : Nat) : Int) - (jq_mv m' (p' - (p - (up : Int))) : Nat)) < 0 then -s else s, (if s = s' then ((m * 2 ^ up : Nat) : Int) + (jq_mv m' (p' - (p - (up : Int))) : Nat) else ((m * 2 ^ up : Nat) : Int) - (jq_mv m' (p' - (p - (up : Int))) : Nat)).natAbs, p - (up : Int)) := by
    unfold jq_addh
    dsimp only
    rw [hup]
  rw [eadd]
  dsimp only
  generalize hL : m * 2 ^ up = L at *
  generalize hP2 : p - (up : Int) = P at *
  -- compare in units of 2 to the -256
  have hcmp : ∀ (a : Nat) (q : Int), -112 ≤ q → jq_cmp (s * jq_zn m p + s' * jq_zn m' p').natAbs (jq_zn a q) = jq_cmp (s * jq_v m p + s' * jq_v m' p').natAbs (jq_v a q) := by
    intro a q hq
    have e : (s * (jq_v m p : Nat) + s' * (jq_v m' p' : Nat) : Int).natAbs = (s * jq_zn m p + s' * jq_zn m' p').natAbs * 2 ^ 144 := by
      rw [← g1, ← g2, Int.natCast_mul, Int.natCast_mul, ← Int.mul_assoc, ← Int.mul_assoc, ← Int.add_mul, Int.natAbs_mul]
      rfl
    rw [e, ← jq_zn_v hq, jq_cmp_mul hz144]
  by_cases ht : 0 ≤ p' - P
  · -- nothing is cut off
    obtain ⟨k, hk⟩ : ∃ k : Nat, p' = P + k := ⟨(p' - P).toNat, by omega⟩
    have emv : jq_mv m' (p' - P) = m' * 2 ^ k := by
      unfold jq_mv
      rw [if_pos ht, show (p' - P).toNat = k by omega]
    have eS : jq_v m' p' = jq_v (m' * 2 ^ k) P := by rw [jq_v_sh _ _ hP, hk]
    rw [emv] at hsm ⊢
    generalize m' * 2 ^ k = B at *
    have hu : 0 < 2 ^ (P + 256).toNat := Nat.two_pow_pos _
    have eZ : s * (jq_v m p : Nat) + s' * (jq_v m' p' : Nat) = (s * L + s' * B) * ((2 ^ (P + 256).toNat : Nat) : Int) := by
      rw [eL, eS]
      unfold jq_v
      rw [Int.natCast_mul, Int.natCast_mul, ← Int.mul_assoc, ← Int.mul_assoc, ← Int.add_mul]
    have eabs : (s * (jq_v m p : Nat) + s' * (jq_v m' p' : Nat) : Int).natAbs = jq_v (s * L + s' * B).natAbs P := by
      rw [eZ, Int.natAbs_mul]
      rfl
    have eM : (if s = s' then (L : Int) + (B : Nat) else (L : Int) - (B : Nat)).natAbs = (s * L + s' * B).natAbs := by
      rcases hs with rfl | rfl <;> rcases hs' with rfl | rfl
      · rw [if_pos rfl]; omega
      · rw [if_neg (by decide)]; omega
      · rw [if_neg (by decide)]; omega
      · rw [if_pos rfl]; omega
    refine ⟨?_, fun a q ha hq hq2 => ?_⟩
    · have e2 : jq_sg (s * jq_zn m p + s' * jq_zn m' p') = jq_sg (s * L + s' * B) := by
        have e3 : (s * jq_zn m p + s' * jq_zn m' p') * ((2 ^ 144 : Nat) : Int) = (s * L + s' * B) * ((2 ^ (P + 256).toNat : Nat) : Int) := by
          rw [← eZ, Int.add_mul, Int.mul_assoc, Int.mul_assoc, ← Int.natCast_mul, ← Int.natCast_mul, g1, g2]
        have sg : ∀ (x y : Int) (u v : Nat), 0 < u → 0 < v → x * (u : Int) = y * (v : Int) → jq_sg x = jq_sg y := by
          intro x y u v hu hv h
          have lt : ∀ (x y : Int) (u v : Nat), 0 < u → 0 < v → x * (u : Int) = y * (v : Int) → x < 0 → y < 0 := by
            intro x y u v hu hv h hx
            have h1 : x * (u : Int) < 0 := Int.mul_neg_of_neg_of_pos hx (by omega)
            apply Classical.byContradiction
            intro hy
            have := Int.mul_nonneg (a := y) (b := (v : Int)) (by omega) (by omega)
            omega
          have gt : ∀ (x y : Int) (u v : Nat), 0 < u → 0 < v → x * (u : Int) = y * (v : Int) → 0 < x → 0 < y := by
            intro x y u v hu hv h hx
            have h1 : 0 < x * (u : Int) := Int.mul_pos hx (by omega)
            apply Classical.byContradiction
            intro hy
            have := Int.mul_nonpos_of_nonpos_of_nonneg (a := y) (b := (v : Int)) (by omega) (by omega)
            omega
          have l1 := lt x y u v hu hv h
          have l2 := lt y x v u hv hu h.symm
          have r1 := gt x y u v hu hv h
          have r2 := gt y x v u hv hu h.symm
          unfold jq_sg
          by_cases c1 : x < 0
          · rw [if_pos c1, if_pos (l1 c1)]
          · by_cases c2 : x = 0
            · rw [if_neg c1, if_pos c2, if_neg (fun g => c1 (l2 g)), if_pos (by omega)]
            · rw [if_neg c1, if_neg c2, if_neg (fun g => c1 (l2 g)), if_neg (by omega)]
        exact sg _ _ _ _ hz144 hu e3
      rw [e2]
      unfold jq_sg
      rcases hs with rfl | rfl <;> rcases hs' with rfl | rfl
      · rw [if_pos rfl, if_neg (by omega), if_neg (by omega), if_pos (by omega)]
      · rw [show (if (-1 : Int) = 1 then (L : Int) + (B : Nat) else (L : Int) - (B : Nat)) = (L : Int) - B from if_neg (by decide)]
        by_cases c1 : (L : Int) - B = 0
        · rw [if_pos c1, if_neg (by omega), if_pos (by omega)]
        · rw [if_neg c1]
          by_cases c2 : (L : Int) - B < 0
          · rw [if_pos c2, if_neg (by omega), if_neg (by omega)]; rfl
          · rw [if_neg c2, if_pos (by omega)]
      · rw [show (if (1 : Int) = -1 then (L : Int) + (B : Nat) else (L : Int) - (B : Nat)) = (L : Int) - B from if_neg (by decide)]
        by_cases c1 : (L : Int) - B = 0
        · rw [if_pos c1, if_neg (by omega), if_pos (by omega)]
        · rw [if_neg c1]
          by_cases c2 : (L : Int) - B < 0
          · rw [if_pos c2, if_pos (by omega)]
          · rw [if_neg c2, if_neg (by omega), if_neg (by omega)]
      · rw [if_pos rfl, if_neg (by omega), if_neg (by omega), if_neg (by omega), if_neg (by omega)]
    · rw [hcmp a q hq, eabs, eM]
  · -- what is cut off is far behind
    obtain ⟨k, hk1, hk⟩ : ∃ k : Nat, 1 ≤ k ∧ P = p' + k := ⟨(P - p').toNat, by omega, by omega⟩
    have emv : jq_mv m' (p' - P) = jq_st m' (2 ^ k) := by
      unfold jq_mv
      rw [if_neg ht, show (-(p' - P)).toNat = k by omega]
    have eLp : jq_v m p = jq_v (L * 2 ^ k) p' := by rw [eL, jq_v_sh _ _ (by omega), hk]
    rw [emv] at hsm ⊢
    have hstl := jq_st_le m' (2 ^ k)
    have hdl : m' / 2 ^ k ≤ m' := Nat.div_le_self _ _
    have hk0 := Nat.two_pow_pos k
    have hu : 0 < 2 ^ (p' + 256).toNat := Nat.two_pow_pos _
    have hLk : L ≤ L * 2 ^ k := Nat.le_mul_of_pos_right L hk0
    have eZ : s * (jq_v m p : Nat) + s' * (jq_v m' p' : Nat) = (s * ((L * 2 ^ k : Nat) : Int) + s' * m') * ((2 ^ (p' + 256).toNat : Nat) : Int) := by
      rw [eLp]
      unfold jq_v
      rw [Int.natCast_mul (L * 2 ^ k), Int.natCast_mul m', ← Int.mul_assoc, ← Int.mul_assoc, ← Int.add_mul]
    have eabs : (s * (jq_v m p : Nat) + s' * (jq_v m' p' : Nat) : Int).natAbs = jq_v (s * ((L * 2 ^ k : Nat) : Int) + s' * m').natAbs p' := by
      rw [eZ, Int.natAbs_mul]
      rfl
    have eV : ∀ x : Nat, jq_v x P = jq_v (x * 2 ^ k) p' := fun x => by rw [jq_v_sh _ _ (by omega), hk]
    generalize hst : jq_st m' (2 ^ k) = B at *
    have hsgz : jq_sg (s * jq_zn m p + s' * jq_zn m' p') = s := by
      have e3 : (s * jq_zn m p + s' * jq_zn m' p') * ((2 ^ 144 : Nat) : Int) = (s * ((L * 2 ^ k : Nat) : Int) + s' * m') * ((2 ^ (p' + 256).toNat : Nat) : Int) := by
        rw [← eZ, Int.add_mul, Int.mul_assoc, Int.mul_assoc, ← Int.natCast_mul, ← Int.natCast_mul, g1, g2]
      generalize s * (jq_zn m p : Nat) + s' * (jq_zn m' p' : Nat) = zz at *
      generalize (2 ^ (p' + 256).toNat : Nat) = u at *
      generalize L * 2 ^ k = LL at *
      generalize (2 ^ 144 : Nat) = v at *
      unfold jq_sg
      rcases hs with rfl | rfl
      · have h1 : (-1 * (LL : Int) + s' * m') * (u : Int) < 0 := Int.mul_neg_of_neg_of_pos (by rcases hs' with rfl | rfl <;> omega) (by omega)
        rw [← e3] at h1
        rw [if_pos]
        apply Classical.byContradiction
        intro hy
        have := Int.mul_nonneg (a := zz) (b := (v : Int)) (by omega) (by omega)
        omega
      · have h1 : 0 < (1 * (LL : Int) + s' * m') * (u : Int) := Int.mul_pos (by rcases hs' with rfl | rfl <;> omega) (by omega)
        rw [← e3] at h1
        have hzp : 0 < zz := by
          apply Classical.byContradiction
          intro hy
          have := Int.mul_nonpos_of_nonpos_of_nonneg (a := zz) (b := (v : Int)) (by omega) (by omega)
          omega
        rw [if_neg (by omega), if_neg (by omega)]
    have hpos : ¬ (if s = s' then (L : Int) + (B : Nat) else (L : Int) - (B : Nat)) = 0 ∧ ¬ (if s = s' then (L : Int) + (B : Nat) else (L : Int) - (B : Nat)) < 0 := by
      split <;> omega
    refine ⟨by rw [hsgz, if_neg hpos.1, if_neg hpos.2], fun a q ha hq hq2 => ?_⟩
    rw [hcmp a q hq, eabs]
    have eM : (if s = s' then (L : Int) + (B : Nat) else (L : Int) - (B : Nat)).natAbs = if s = s' then L + B else L - B := by
      by_cases c : s = s'
      · rw [if_pos c, if_pos c]; omega
      · rw [if_neg c, if_neg c]; omega
    have eN : (s * ((L * 2 ^ k : Nat) : Int) + s' * m').natAbs = if s = s' then L * 2 ^ k + m' else L * 2 ^ k - m' := by
      generalize L * 2 ^ k = LL at *
      rcases hs with rfl | rfl <;> rcases hs' with rfl | rfl
      · rw [if_pos rfl]; omega
      · rw [if_neg (by decide)]; omega
      · rw [if_neg (by decide)]; omega
      · rw [if_pos rfl]; omega
    rw [eM, eN]
    by_cases hq3 : P < q
    · obtain ⟨j, hj1, hj⟩ : ∃ j : Nat, 1 ≤ j ∧ q = P + j := ⟨(q - P).toNat, by omega, by omega⟩
      have hye : a * 2 ^ j % 2 = 0 := by
        obtain ⟨i, rfl⟩ : ∃ i, j = i + 1 := ⟨j - 1, by omega⟩
        rw [Nat.pow_succ, ← Nat.mul_assoc, Nat.mul_mod_left]
      have eq1 : jq_v a q = jq_v (a * 2 ^ j) P := by rw [jq_v_sh _ _ hP, hj]
      rw [eq1, jq_v_cmp, eV, jq_v_cmp]
      by_cases c : s = s'
      · rw [if_pos c, if_pos c, ← hst, jq_add_cmp hk0 hLe hye h0']
      · rw [if_neg c, if_neg c, ← hst, jq_sub_cmp hk0 hLe hye h0' (by omega) (by omega)]
    · have h1 : a < (if s = s' then L + B else L - B) := by split <;> omega
      have h2 : a * 2 ^ k < (if s = s' then L * 2 ^ k + m' else L * 2 ^ k - m') := by
        have h3 : a * 2 ^ k ≤ 8192 * 2 ^ k := Nat.mul_le_mul_right _ (by omega)
        have h4 : 2 ^ 57 * 2 ^ k ≤ L * 2 ^ k := Nat.mul_le_mul_right _ hLb
        split <;> omega
      have h5 : jq_v a q ≤ jq_v (a * 2 ^ k) p' := by
        rw [← eV]
        exact jq_v_le (by omega)
      rw [jq_cmp_gt (Nat.lt_of_le_of_lt h5 (jq_v_lt1 h2)), jq_cmp_gt (Nat.lt_of_le_of_lt (jq_v_le (by omega)) (jq_v_lt1 h1))]
