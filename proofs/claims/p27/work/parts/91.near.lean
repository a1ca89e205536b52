set_option maxRecDepth 20000
/-! the nearest with little below the line -/
def jn_p (z u d : Int) : Int := if z * d % u ≤ u - z * d % u then z * d / u else z * d / u + 1
def jn_m (z u d : Int) : Int := if z * d % u ≤ u - z * d % u then z * d % u else u - z * d % u
def jn_b (z u : Int) : Nat → Nat → Nat → Nat
  | 0, _, b => b
  | f + 1, i, b => jn_b z u f (i + 1) (if jn_m z u i * b < jn_m z u b * i then i else b)
theorem jn_m_b {z u d : Int} (hu : 0 < u) : 0 ≤ jn_m z u d ∧ jn_m z u d ≤ u := by
  have h1 := Int.emod_nonneg (z * d) (show u ≠ 0 by omega)
  have h2 := Int.emod_lt_of_pos (z * d) hu
  unfold jn_m
  split <;> omega
theorem jn_b_0 {z u : Int} (hu : 0 < u) {b : Nat} (h : jn_m z u b = 0) : ∀ f i, jn_b z u f i b = b
  | 0, _ => rfl
  | f + 1, i => by
    have h1 : 0 ≤ jn_m z u i * (b : Int) := Int.mul_nonneg (jn_m_b hu).1 (by omega)
    rw [jn_b, h, if_neg (by omega)]
    exact jn_b_0 hu h f (i + 1)
theorem jn_sc {z u k : Int} (d : Int) (hk : 0 < k) : jn_p (k * z) (k * u) d = jn_p z u d ∧ jn_m (k * z) (k * u) d = k * jn_m z u d := by
  have e1 : k * z * d % (k * u) = k * (z * d % u) := by rw [Int.mul_assoc, Int.mul_emod_mul_of_pos _ _ hk]
  have e2 : k * z * d / (k * u) = z * d / u := by rw [Int.mul_assoc, Int.mul_ediv_mul_of_pos _ _ hk]
  have e3 : (k * (z * d % u) ≤ k * u - k * (z * d % u)) = (z * d % u ≤ u - z * d % u) := by
    rw [← Int.mul_sub]
    exact propext (Int.mul_le_mul_left hk)
  unfold jn_p jn_m
  rw [e1, e2, ite_eqP e3, ite_eqP e3, ← Int.mul_sub]
  by_cases h : z * d % u ≤ u - z * d % u
  · rw [if_pos h, if_pos h, if_pos h]; exact ⟨rfl, rfl⟩
  · rw [if_neg h, if_neg h, if_neg h]; exact ⟨rfl, rfl⟩
theorem jn_b_sc {z u k : Int} (hk : 0 < k) : ∀ f i b, jn_b (k * z) (k * u) f i b = jn_b z u f i b
  | 0, _, _ => rfl
  | f + 1, i, b => by
    have e : (k * jn_m z u i * (b : Int) < k * jn_m z u b * (i : Int)) = (jn_m z u i * (b : Int) < jn_m z u b * (i : Int)) := by
      rw [Int.mul_assoc, Int.mul_assoc]
      exact propext (Int.mul_lt_mul_left hk)
    rw [jn_b, jn_b, (jn_sc i hk).2, (jn_sc b hk).2, ite_eqP e]
    exact jn_b_sc hk f (i + 1) _
theorem jn_td {x u : Int} (hu : 0 < u) : (x.tdiv u * u ≤ x → x.tdiv u = x / u) ∧ (¬ x.tdiv u * u ≤ x → x.tdiv u - 1 = x / u) := by
  by_cases hx : 0 ≤ x
  · rw [Int.tdiv_eq_ediv_of_nonneg hx]
    have := Int.ediv_mul_le x (show u ≠ 0 by omega)
    exact ⟨fun _ => rfl, fun h => absurd this h⟩
  · have e : x.tdiv u = -((-x) / u) := by
      rw [← Int.tdiv_eq_ediv_of_nonneg (show 0 ≤ -x by omega), Int.neg_tdiv, Int.neg_neg]
    have h1 := Int.emod_nonneg (-x) (show u ≠ 0 by omega)
    have h2 := Int.emod_lt_of_pos (-x) hu
    have h3 := Int.emod_add_mul_ediv (-x) u
    have h4 : -(-x / u) * u = -(u * (-x / u)) := by rw [Int.neg_mul, Int.mul_comm]
    rw [e]
    constructor
    · intro h
      exact (((Int.ediv_emod_unique hu).mpr ⟨show 0 + u * (-(-x / u)) = x by rw [Int.mul_neg]; omega, by omega, hu⟩).1).symm
    · intro h
      exact (((Int.ediv_emod_unique hu).mpr ⟨show u - (-x) % u + u * (-(-x / u) - 1) = x by rw [Int.mul_sub, Int.mul_neg, Int.mul_one]; omega, by omega, by omega⟩).1).symm
theorem nI_lI {k : Nat} (h : k < 2147483648) : Int32.toInt64 (nI k) = lI k := by
  rw [jI_n, jI_l ⟨by omega, by omega⟩]
/-- times a little: in the bounds of a long -/
theorem jn_zd {z d : Int} (h1 : -35184372088832 ≤ z) (h2 : z ≤ 35184372088832) (h3 : 0 ≤ d) (h4 : d ≤ 1000) : -35184372088832000 ≤ z * d ∧ z * d ≤ 35184372088832000 := by
  have g1 := Int.mul_le_mul_of_nonneg_right h1 h3
  have g2 := Int.mul_le_mul_of_nonneg_right h2 h3
  omega
theorem jn_rest (x u : Int) : x - x / u * u = x % u := by
  have := Int.emod_add_mul_ediv x u
  rw [Int.mul_comm (x / u)]
  omega
theorem jn_abs {z u d : Int} (hu : 0 < u) : ((z * d - jn_p z u d * u).natAbs : Int) = jn_m z u d := by
  have h1 := Int.emod_nonneg (z * d) (show u ≠ 0 by omega)
  have h2 := Int.emod_lt_of_pos (z * d) hu
  have h3 := jn_rest (z * d) u
  unfold jn_p jn_m
  by_cases h : z * d % u ≤ u - z * d % u
  · rw [if_pos h, if_pos h]; omega
  · rw [if_neg h, if_neg h, Int.add_mul, Int.one_mul]; omega
theorem jn_u {b : Nat} (h : b ≤ 44) : (0 : Int) < ((2 ^ b : Nat) : Int) ∧ ((2 ^ b : Nat) : Int) ≤ 17592186044416 := by
  have h1 := p2_le (m := 44) h
  have h2 := Nat.two_pow_pos b
  omega
def jn_z (s : Int) (m : Nat) (p : Int) : Int := s * ((m * 2 ^ p.toNat : Nat) : Int)
section NEAR
variable {S : Option (Nat × (Nat → Int32))} {H : jm_H} {Q : Option Value → jm_H → Prop} {r m : Nat} {s p : Int}
theorem c128 (ht : jm_tg H r = 3) (hi : jq_is H r (some (s, m, p))) (hp : -44 ≤ p) (hp2 : p ≤ 56) : jm_c S 128 [.ref r] H Q = Q (some (.int (nI (-p).toNat))) H := by
  have e4 : jm_I H r 4 = jI p := hi.2.2.2
  rw [en128, u128_0 ht, e4, jI_neg, show (48 : Int32) = jI 48 from rfl, c57 ⟨by omega, by omega⟩ ⟨by omega, by omega⟩]
  simp only [Option.toList_some, List.cons_append, List.nil_append]
  rw [u128_11, show (0 : Int32) = jI 0 from rfl, c74 ⟨by omega, by omega⟩ ⟨by omega, by omega⟩]
  simp only [Option.toList_some, List.cons_append, List.nil_append]
  rw [u128_14, jI_n, show max 0 (min (-p) 48) = (((-p).toNat : Nat) : Int) by omega]
theorem c126 (ht : jm_tg H r = 3) (hi : jq_is H r (some (s, m, p))) (hs : -1 ≤ s ∧ s ≤ 1) (hp : -44 ≤ p) (hp2 : p ≤ 44) : jm_c S 126 [.ref r] H Q = Q (some (.long (lI (jn_z s m p)))) H := by
  have e4 : jm_I H r 4 = jI p := hi.2.2.2
  have e3 : jm_L H r 3 = lN m := hi.2.2.1
  have e2 : jm_I H r 2 = jI s := hi.2.1
  rw [en126, u126_0 ht, e4, e3, e2, show (48 : Int32) = jI 48 from rfl, c57 ⟨by omega, by omega⟩ ⟨by omega, by omega⟩]
  simp only [Option.toList_some, List.cons_append, List.nil_append]
  rw [u126_19, show (0 : Int32) = jI 0 from rfl, c74 ⟨by omega, by omega⟩ ⟨by omega, by omega⟩]
  simp only [Option.toList_some, List.cons_append, List.nil_append]
  rw [u126_22, show max 0 (min p 48) = ((p.toNat : Nat) : Int) by omega, ← jI_n, lN_shl _ (by omega), jI_l ⟨by omega, by omega⟩, lI_n, lI_mul]
  rfl
variable {b d : Nat} {z : Int}
theorem c127 (ht : jm_tg H r = 3) (hi : jq_is H r (some (s, m, p))) (hs : -1 ≤ s ∧ s ≤ 1) (hp : -44 ≤ p) (hp2 : p ≤ 44) (hz1 : -35184372088832 ≤ jn_z s m p) (hz2 : jn_z s m p ≤ 35184372088832) (hd : d ≤ 1000) : jm_c S 127 [.ref r, .int (nI d)] H Q = Q (some (.long (lI (jn_p (jn_z s m p) ((2 ^ (-p).toNat : Nat) : Int) d)))) H := by
  have hb : (-p).toNat ≤ 44 := by omega
  obtain ⟨u1, u2⟩ := jn_u hb
  rw [en127, u127_0 ht, c128 ht hi hp (by omega)]
  simp only [Option.toList_some, List.cons_append, List.nil_append]
  rw [u127_4 ht, c126 ht hi hs hp hp2]
  simp only [Option.toList_some, List.cons_append, List.nil_append]
  generalize jn_z s m p = z at hz1 hz2 ⊢
  generalize (-p).toNat = b at hb u1 u2 ⊢
  obtain ⟨g1, g2⟩ := jn_zd (d := (d : Int)) hz1 hz2 (by omega) (by omega)
  have h1 := Int.emod_nonneg (z * d) (show ((2 ^ b : Nat) : Int) ≠ 0 by omega)
  have h2 := Int.emod_lt_of_pos (z * d) u1
  rw [u127_9, nI_lI (by omega), lI_mul z d, lI_shr (z := z * d) ⟨by omega, by omega⟩ (by omega), lI_shl (z * d / ((2 ^ b : Nat) : Int)) (by omega), lN_p2 (by omega), lI_n, lI_sub (z * d), jn_rest, lI_sub]
  have cc : (lg_cmp (lI (z * d % ((2 ^ b : Nat) : Int))) (lI (((2 ^ b : Nat) : Int) - z * d % ((2 ^ b : Nat) : Int))) ≤ 0) = (z * d % ((2 ^ b : Nat) : Int) ≤ ((2 ^ b : Nat) : Int) - z * d % ((2 ^ b : Nat) : Int)) := by
    rw [lg_cmp_le]
    exact propext (lI_le ⟨by omega, by omega⟩ ⟨by omega, by omega⟩)
  rw [ite_eqP cc]
  unfold jn_p
  by_cases h : z * d % ((2 ^ b : Nat) : Int) ≤ ((2 ^ b : Nat) : Int) - z * d % ((2 ^ b : Nat) : Int)
  · rw [if_pos h, if_pos h, u127_45, u127_47]
  · rw [if_neg h, if_neg h, u127_38, u127_47, show (1 : Int64) = lI 1 from rfl, lI_add]
theorem c125 (ht : jm_tg H r = 3) (hi : jq_is H r (some (s, m, p))) (hs : -1 ≤ s ∧ s ≤ 1) (hp : -44 ≤ p) (hp2 : p ≤ 44) (hz1 : -35184372088832 ≤ jn_z s m p) (hz2 : jn_z s m p ≤ 35184372088832) (hd : d ≤ 1000) : jm_c S 125 [.ref r, .int (nI d)] H Q = Q (some (.long (lI (jn_m (jn_z s m p) ((2 ^ (-p).toNat : Nat) : Int) d)))) H := by
  have hb : (-p).toNat ≤ 44 := by omega
  obtain ⟨u1, u2⟩ := jn_u hb
  have hm := jn_m_b (z := jn_z s m p) (d := (d : Int)) u1
  have ha := jn_abs (z := jn_z s m p) (d := (d : Int)) u1
  rw [en125, u125_0 ht, c126 ht hi hs hp hp2]
  simp only [Option.toList_some, List.cons_append, List.nil_append]
  rw [u125_4 ht, c127 ht hi hs hp hp2 hz1 hz2 hd]
  simp only [Option.toList_some, List.cons_append, List.nil_append]
  rw [u125_12 ht, c128 ht hi hp (by omega)]
  simp only [Option.toList_some, List.cons_append, List.nil_append]
  rw [u125_16, nI_lI (by omega), lI_mul, lI_shl _ (by omega), lI_sub, c47 ⟨by omega, by omega⟩, ha]
  simp only [Option.toList_some, List.cons_append, List.nil_append]
  rw [u125_21]
theorem s124 {q : Nat} (ht : jm_tg H r = 3) (hi : jq_is H r (some (s, m, p))) (hs : -1 ≤ s ∧ s ≤ 1) (hp : -44 ≤ p) (hp2 : p ≤ 44) (hz1 : -35184372088832 ≤ jn_z s m p) (hz2 : jn_z s m p ≤ 35184372088832) (hq : q ≤ 1000) : ∀ (f i b : Nat) (w : Value), i + f = q + 1 → b ≤ 1000 → jm_w S 5 124 11 [.ref r, .int (nI q), .int (nI b), .long (lI (jn_m (jn_z s m p) ((2 ^ (-p).toNat : Nat) : Int) b)), .null, .int (nI i), w, .null] [] H Q = Q (some (.int (nI (jn_b (jn_z s m p) ((2 ^ (-p).toNat : Nat) : Int) f i b)))) H
  | 0, i, b, w, hf, hb => by
    rw [u124_11, if_pos ((nI_ltI (by omega) (by omega)).mpr (by omega)), u124_57]
    rfl
  | f + 1, i, b, w, hf, hb => by
    have hbb : (-p).toNat ≤ 44 := by omega
    obtain ⟨u1, u2⟩ := jn_u hbb
    have m1 := jn_m_b (z := jn_z s m p) (d := (b : Int)) u1
    have m2 := jn_m_b (z := jn_z s m p) (d := (i : Int)) u1
    rw [u124_11, if_neg (fun g => by have := (nI_ltI (by omega) (by omega)).mp g; omega), u124_17]
    have c0 : (lg_cmp (lI (jn_m (jn_z s m p) ((2 ^ (-p).toNat : Nat) : Int) b)) (0 : Int64) = 0) = (jn_m (jn_z s m p) ((2 ^ (-p).toNat : Nat) : Int) b = 0) := by
      rw [lg_cmp0, lI_0']
      exact propext (lI_eq ⟨by omega, by omega⟩ (by decide))
    rw [ite_eqP c0]
    by_cases h0 : jn_m (jn_z s m p) ((2 ^ (-p).toNat : Nat) : Int) b = 0
    · rw [if_pos h0, u124_57, jn_b_0 u1 h0]
    · rw [if_neg h0, u124_23 ht, c125 ht hi hs hp hp2 hz1 hz2 (by omega)]
      simp only [Option.toList_some, List.cons_append, List.nil_append]
      rw [u124_29, nI_lI (by omega), nI_lI (by omega), lI_mul, lI_mul]
      have n1 := jn_zd (d := (b : Int)) (show -35184372088832 ≤ jn_m (jn_z s m p) ((2 ^ (-p).toNat : Nat) : Int) i by omega) (by omega) (by omega) (by omega)
      have n2 := jn_zd (d := (i : Int)) (show -35184372088832 ≤ jn_m (jn_z s m p) ((2 ^ (-p).toNat : Nat) : Int) b by omega) (by omega) (by omega) (by omega)
      have cc : (0 ≤ lg_cmp (lI (jn_m (jn_z s m p) ((2 ^ (-p).toNat : Nat) : Int) i * (b : Int))) (lI (jn_m (jn_z s m p) ((2 ^ (-p).toNat : Nat) : Int) b * (i : Int)))) = (jn_m (jn_z s m p) ((2 ^ (-p).toNat : Nat) : Int) b * (i : Int) ≤ jn_m (jn_z s m p) ((2 ^ (-p).toNat : Nat) : Int) i * (b : Int)) := by
        rw [lg_cmp_ge]
        exact propext (lI_le ⟨by omega, by omega⟩ ⟨by omega, by omega⟩)
      rw [ite_eqP cc, jn_b]
      by_cases h : jn_m (jn_z s m p) ((2 ^ (-p).toNat : Nat) : Int) b * (i : Int) ≤ jn_m (jn_z s m p) ((2 ^ (-p).toNat : Nat) : Int) i * (b : Int)
      · rw [if_pos h, if_neg (by omega), u124_51, nI_succK]
        exact s124 ht hi hs hp hp2 hz1 hz2 hq f (i + 1) b _ (by omega) hb
      · rw [if_neg h, if_pos (by omega), u124_45, u124_51, nI_succK]
        exact s124 ht hi hs hp hp2 hz1 hz2 hq f (i + 1) i _ (by omega) (by omega)
theorem c124 {q : Nat} (ht : jm_tg H r = 3) (hi : jq_is H r (some (s, m, p))) (hs : -1 ≤ s ∧ s ≤ 1) (hp : -44 ≤ p) (hp2 : p ≤ 44) (hz1 : -35184372088832 ≤ jn_z s m p) (hz2 : jn_z s m p ≤ 35184372088832) (hq : q ≤ 1000) (hq0 : 1 ≤ q) : jm_c S 124 [.ref r, .int (nI q)] H Q = Q (some (.int (nI (jn_b (jn_z s m p) ((2 ^ (-p).toNat : Nat) : Int) (q - 1) 2 1)))) H := by
  rw [en124, u124_0 ht, show (1 : Int32) = nI 1 from rfl, c125 ht hi hs hp hp2 hz1 hz2 (by decide)]
  simp only [Option.toList_some, List.cons_append, List.nil_append]
  rw [u124_7]
  exact s124 ht hi hs hp hp2 hz1 hz2 hq (q - 1) 2 1 .null (by omega) (by decide)
theorem jn_b_le {z u : Int} {q : Nat} : ∀ f i b, i + f ≤ q + 1 → b ≤ q → jn_b z u f i b ≤ q
  | 0, _, b, _, hb => hb
  | f + 1, i, b, hf, hb => by
    rw [jn_b]
    apply jn_b_le f (i + 1) _ (by omega)
    split <;> omega
/-- what the call answers -/
def jn_an (z u : Int) (q K : Nat) : Int := if K = 1 then (jn_b z u (q - 1) 2 1 : Int) else jn_p z u (jn_b z u (q - 1) 2 1 : Int)
end NEAR
