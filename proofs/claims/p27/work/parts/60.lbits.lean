set_option maxRecDepth 20000
/-! longs: shifts, masks, parts put together; leading zeros -/
theorem lw_c : ∀ k, k < 64 → ((nI k).toInt64 &&& 63) = lN k := by decide +kernel
theorem lw_sm : ∀ k, k < 64 → ((lN k).toBitVec.smod 64).toNat = k := by decide +kernel
theorem lw_cu : ∀ k, k < 64 → ((nI k).toInt64.toUInt64 &&& Int64.toUInt64 63) = UInt64.ofNat k := by decide +kernel
theorem lI_bv (z : Int) : ((lI z).toBitVec.toNat : Int) = z % 18446744073709551616 := by
  show (((BitVec.ofInt 64 z).toNat : Nat) : Int) = _
  rw [BitVec.toNat_ofInt]
  omega
theorem lI_shl (z : Int) {k : Nat} (hk : k < 64) : lI z <<< ((nI k).toInt64 &&& 63) = lI (z * (2 ^ k : Nat)) := by
  rw [lw_c k hk]
  apply Int64.toBitVec.inj
  apply BitVec.eq_of_toNat_eq
  rw [Int64.toBitVec_shiftLeft, BitVec.shiftLeft_eq', BitVec.toNat_shiftLeft, lw_sm k hk, Nat.shiftLeft_eq]
  apply Int.ofNat.inj
  show (((lI z).toBitVec.toNat * 2 ^ k % 2 ^ 64 : Nat) : Int) = ((lI (z * (2 ^ k : Nat))).toBitVec.toNat : Int)
  rw [lI_bv, Int.natCast_emod, Int.natCast_mul, lI_bv]
  show (z % 18446744073709551616 * _) % 18446744073709551616 = _
  rw [Int.mul_emod, Int.emod_emod_of_dvd _ (Int.dvd_refl _), ← Int.mul_emod]
theorem lI_shr {z : Int} (hz : l6 z) {k : Nat} (hk : k < 64) : lI z >>> ((nI k).toInt64 &&& 63) = lI (z / (2 ^ k : Nat)) := by
  rw [lw_c k hk]
  have e : (lI z >>> lN k).toInt = (lI z).toInt >>> ((lN k).toBitVec.smod 64).toNat := BitVec.toInt_sshiftRight ..
  rw [lw_sm k hk, lI_t hz, Int.shiftRight_eq_div_pow] at e
  rw [← Int64.toInt_inj, e]
  refine (lI_t ?_).symm
  have hp : 0 < 2 ^ k := Nat.two_pow_pos k
  generalize 2 ^ k = d at hp ⊢
  constructor
  · have := Int.le_ediv_of_mul_le (a := -9223372036854775808) (b := z) (c := (d : Int)) (by omega) (by have : (-9223372036854775808 : Int) * d ≤ -9223372036854775808 * 1 := Int.mul_le_mul_of_nonpos_left (by decide) (by omega); omega)
    exact this
  · have := Int.ediv_lt_of_lt_mul (a := z) (b := 9223372036854775808) (c := (d : Int)) (by omega) (by have : (9223372036854775808 : Int) * 1 ≤ 9223372036854775808 * d := Int.mul_le_mul_of_nonneg_left (by omega) (by decide); omega)
    exact this
theorem lN_shl (n : Nat) {k : Nat} (hk : k < 64) : lN n <<< ((nI k).toInt64 &&& 63) = lN (n * 2 ^ k) := by rw [lI_n, lI_n, lI_shl _ hk, Int.natCast_mul]
theorem lN_shr {a k : Nat} (ha : a < 9223372036854775808) (hk : k < 64) : lN a >>> ((nI k).toInt64 &&& 63) = lN (a / 2 ^ k) := by rw [lI_n, lI_n, lI_shr ⟨by omega, by omega⟩ hk, Int.natCast_ediv]
theorem lN_and (a b : Nat) : lN a &&& lN b = lN (a &&& b) := by
  apply Int64.toBitVec_inj.1
  show BitVec.ofNat 64 a &&& BitVec.ofNat 64 b = BitVec.ofNat 64 (a &&& b)
  apply BitVec.eq_of_getLsbD_eq
  intro i hi
  simp [hi]
theorem lN_or (a b : Nat) : lN a ||| lN b = lN (a ||| b) := by
  apply Int64.toBitVec_inj.1
  show BitVec.ofNat 64 a ||| BitVec.ofNat 64 b = BitVec.ofNat 64 (a ||| b)
  apply BitVec.eq_of_getLsbD_eq
  intro i hi
  simp [hi]
theorem lN_1L : (1 : Int64) = lN 1 := rfl
theorem lN_0L : (0 : Int64) = lN 0 := rfl
theorem lN_msk (a k : Nat) : lN a &&& (lN (2 ^ k) - 1) = lN (a % 2 ^ k) := by
  rw [lN_1L, lN_sub (Nat.two_pow_pos k), lN_and, Nat.and_two_pow_sub_one_eq_mod]
theorem lN_p2 {k : Nat} (hk : k < 64) : (1 : Int64) <<< ((nI k).toInt64 &&& 63) = lN (2 ^ k) := by rw [lN_1L, lN_shl 1 hk, Nat.one_mul]
theorem lN_ors {a k : Nat} (b : Nat) (h : a < 2 ^ k) : lN (b * 2 ^ k) ||| lN a = lN (b * 2 ^ k + a) := by rw [lN_or, Nat.mul_comm b, Nat.two_pow_add_eq_or_of_lt h]
theorem lN_bit0 (a : Nat) : lN a &&& 1 = lN (a % 2) := by
  have := lN_msk a 1
  exact this
theorem lN_ushr {n k : Nat} (hn : n < 18446744073709551616) (hk : k < 64) : ((lN n).toUInt64 >>> ((nI k).toInt64.toUInt64 &&& Int64.toUInt64 63)).toInt64 = lN (n / 2 ^ k) := by
  rw [lw_cu k hk]
  apply Int64.toBitVec_inj.1
  apply BitVec.eq_of_toNat_eq
  show ((lN n).toUInt64 >>> UInt64.ofNat k).toNat = (BitVec.ofNat 64 _).toNat
  have h1 : (UInt64.ofNat k).toNat = k := by
    show (BitVec.ofNat 64 k).toNat = k
    rw [BitVec.toNat_ofNat, Nat.mod_eq_of_lt (by omega)]
  have h2 : (lN n).toUInt64.toNat = n := by
    show (BitVec.ofNat 64 n).toNat = n
    rw [BitVec.toNat_ofNat, Nat.mod_eq_of_lt hn]
  rw [UInt64.toNat_shiftRight, h1, h2, Nat.mod_eq_of_lt hk, Nat.shiftRight_eq_div_pow, BitVec.toNat_ofNat, Nat.mod_eq_of_lt (Nat.lt_of_le_of_lt (Nat.div_le_self _ _) hn)]
theorem lN_ltS {a b : Nat} (ha : a < 9223372036854775808) (hb : b < 9223372036854775808) : lN a < lN b ↔ a < b := by rw [lI_n, lI_n, lI_lt ⟨by omega, by omega⟩ ⟨by omega, by omega⟩]; omega
theorem lN_leS {a b : Nat} (ha : a < 9223372036854775808) (hb : b < 9223372036854775808) : lN a ≤ lN b ↔ a ≤ b := by rw [lI_n, lI_n, lI_le ⟨by omega, by omega⟩ ⟨by omega, by omega⟩]; omega
theorem lN_eqS {a b : Nat} (ha : a < 9223372036854775808) (hb : b < 9223372036854775808) : lN a = lN b ↔ a = b := by rw [lI_n, lI_n, lI_eq ⟨by omega, by omega⟩ ⟨by omega, by omega⟩]; omega
/-! conditions told in other words -/
theorem ite_eqP {α : Type} {p q : Prop} [Decidable p] [Decidable q] (h : p = q) (x y : α) : (if p then x else y) = (if q then x else y) := by
  by_cases hp : p
  · rw [if_pos hp, if_pos (h ▸ hp)]
  · rw [if_neg hp, if_neg (h ▸ hp)]
theorem if_ltI {α : Type} {a b : Int} (ha : j3 a) (hb : j3 b) (x y : α) : (if jI a < jI b then x else y) = (if a < b then x else y) := ite_eqP (propext (jI_lt ha hb)) x y
theorem if_leI {α : Type} {a b : Int} (ha : j3 a) (hb : j3 b) (x y : α) : (if jI a ≤ jI b then x else y) = (if a ≤ b then x else y) := ite_eqP (propext (jI_le ha hb)) x y
/-! the highest bit -/
theorem lg_div {x k : Nat} (h : 2 ^ k ≤ x) : Nat.log2 (x / 2 ^ k) + k = Nat.log2 x := by
  have hp := Nat.two_pow_pos k
  have hx : x ≠ 0 := by omega
  have h1 := Nat.log2_self_le hx
  have h2 := Nat.lt_log2_self (n := x)
  have hk : k ≤ Nat.log2 x := (Nat.le_log2 hx).mpr h
  obtain ⟨d, hd⟩ : ∃ d, Nat.log2 x = d + k := ⟨Nat.log2 x - k, by omega⟩
  rw [hd] at h1 h2 ⊢
  have hq : x / 2 ^ k ≠ 0 := by
    have := Nat.div_pos h hp
    omega
  have : Nat.log2 (x / 2 ^ k) = d := (Nat.log2_eq_iff hq).mpr ⟨(Nat.le_div_iff_mul_le hp).mpr (by rw [← Nat.pow_add]; exact h1), (Nat.div_lt_iff_lt_mul hp).mpr (by rw [← Nat.pow_add, show d + 1 + k = d + k + 1 by omega]; exact h2)⟩
  rw [this]
theorem lg_le {x k : Nat} (h0 : 0 < x) (h : x < 2 ^ k) : Nat.log2 x < k := (Nat.log2_lt (by omega)).mpr h
section NLZ
variable {S : Option (Nat × (Nat → Int32))} {H : jm_H} {Q : Option Value → jm_H → Prop}
theorem nI_addm {y k : Nat} {v : Int32} (h : k ≤ y) (hv : v = jI (-(k : Int))) : nI y + v = nI (y - k) := by
  rw [hv, jI_n, jI_add, jI_n]
  congr 1
  omega
theorem e55_73 {x y : Nat} (h0 : 0 < x) (h1 : x < 4) (hy : Nat.log2 x ≤ y) : jm_w S 1 55 73 [.int (nI x), .int (nI y)] [] H Q = Q (some (.int (nI (y - Nat.log2 x)))) H := by
  have e : x / 2 ^ 1 = Nat.log2 x := by
    match x, h0, h1 with
    | 1, _, _ => decide
    | 2, _, _ => decide
    | 3, _, _ => decide
  rw [u55_73, pk_ushrN (by omega) 1 1 (by decide), e, pk_sub hy]
theorem e55_61 {x y : Nat} (h0 : 0 < x) (h1 : x < 16) (hy : Nat.log2 x ≤ y) : jm_w S 1 55 61 [.int (nI x), .int (nI y)] [] H Q = Q (some (.int (nI (y - Nat.log2 x)))) H := by
  rw [u55_61]
  by_cases h : x < 4
  · rw [if_pos (show nI x < (4 : Int32) from (nI_ltI (b := 4) (by omega) (by decide)).mpr h), e55_73 h0 h hy]
  · have hl := lg_div (k := 2) (x := x) (by omega)
    rw [if_neg (show ¬ nI x < (4 : Int32) from fun g => h ((nI_ltI (b := 4) (by omega) (by decide)).mp g)), u55_66, pk_ushrN (by omega) 2 2 (by decide), nI_addm (k := 2) (by omega) (by decide), e55_73 (by omega) (by omega) (by omega)]
    rw [show y - 2 - Nat.log2 (x / 2 ^ 2) = y - Nat.log2 x by omega]
theorem e55_48 {x y : Nat} (h0 : 0 < x) (h1 : x < 256) (hy : Nat.log2 x ≤ y) : jm_w S 1 55 48 [.int (nI x), .int (nI y)] [] H Q = Q (some (.int (nI (y - Nat.log2 x)))) H := by
  rw [u55_48]
  by_cases h : x < 16
  · rw [if_pos (show nI x < (16 : Int32) from (nI_ltI (b := 16) (by omega) (by decide)).mpr h), e55_61 h0 h hy]
  · have hl := lg_div (k := 4) (x := x) (by omega)
    rw [if_neg (show ¬ nI x < (16 : Int32) from fun g => h ((nI_ltI (b := 16) (by omega) (by decide)).mp g)), u55_54, pk_ushrN (by omega) 4 4 (by decide), nI_addm (k := 4) (by omega) (by decide), e55_61 (by omega) (by omega) (by omega)]
    rw [show y - 4 - Nat.log2 (x / 2 ^ 4) = y - Nat.log2 x by omega]
theorem e55_33 {x y : Nat} (h0 : 0 < x) (h1 : x < 65536) (hy : Nat.log2 x ≤ y) : jm_w S 1 55 33 [.int (nI x), .int (nI y)] [] H Q = Q (some (.int (nI (y - Nat.log2 x)))) H := by
  rw [u55_33]
  by_cases h : x < 256
  · rw [if_pos (show nI x < (256 : Int32) from (nI_ltI (b := 256) (by omega) (by decide)).mpr h), e55_48 h0 h hy]
  · have hl := lg_div (k := 8) (x := x) (by omega)
    rw [if_neg (show ¬ nI x < (256 : Int32) from fun g => h ((nI_ltI (b := 256) (by omega) (by decide)).mp g)), u55_40, pk_ushrN (by omega) 8 8 (by decide), nI_addm (k := 8) (by omega) (by decide), e55_48 (by omega) (by omega) (by omega)]
    rw [show y - 8 - Nat.log2 (x / 2 ^ 8) = y - Nat.log2 x by omega]
theorem c55 {x : Nat} (h0 : 0 < x) (h1 : x < 4294967296) : jm_c S 55 [.int (nI x)] H Q = Q (some (.int (nI (31 - Nat.log2 x)))) H := by
  have hl := lg_le (k := 32) h0 h1
  by_cases hn : x < 2147483648
  · rw [en55, u55_0, if_pos (show (0 : Int32) < nI x from (nI_ltI (a := 0) (by decide) (by omega)).mpr h0), u55_15]
    by_cases h : x < 65536
    · rw [if_pos (show nI x < (65536 : Int32) from (nI_ltI (b := 65536) (by omega) (by decide)).mpr h)]
      exact e55_33 h0 h (show Nat.log2 x ≤ 31 by omega)
    · have hd := lg_div (k := 16) (x := x) (by omega)
      rw [if_neg (show ¬ nI x < (65536 : Int32) from fun g => h ((nI_ltI (b := 65536) (by omega) (by decide)).mp g)), u55_25, pk_ushrN (by omega) 16 16 (by decide), show (31 : Int32) + -16 = nI 15 from by decide, e55_33 (by omega) (by omega) (by omega)]
      rw [show 15 - Nat.log2 (x / 2 ^ 16) = 31 - Nat.log2 x by omega]
  · have e : nI x = jI ((x : Int) - 4294967296) := by
      rw [jI_n]
      apply Int32.toBitVec.inj
      apply BitVec.eq_of_toNat_eq
      have a := jI_bv x
      have b := jI_bv ((x : Int) - 4294967296)
      omega
    have n0 : ¬ (0 : Int32) < nI x := by rw [e, jI_0, jI_lt (by decide) ⟨by omega, by omega⟩]; omega
    have n1 : ¬ nI x = (0 : Int32) := by rw [e, jI_0, jI_eq ⟨by omega, by omega⟩ (by decide)]; omega
    have hg : Nat.log2 x = 31 := (Nat.log2_eq_iff (by omega)).mpr ⟨by omega, h1⟩
    rw [en55, u55_0, if_neg n0, u55_4, if_pos n1, u55_13, u55_14, hg]
    rfl
theorem c54 {m : Nat} (h0 : 0 < m) (h1 : m < 9223372036854775808) : jm_c S 54 [.long (lN m)] H Q = Q (some (.int (nI (63 - Nat.log2 m)))) H := by
  have e : Int64.toInt32 ((Int64.toUInt64 (lN m) >>> (Int64.toUInt64 (Int32.toInt64 (32 : Int32)) &&& Int64.toUInt64 63)).toInt64) = nI (m / 2 ^ 32) := by
    have := lN_ushr (n := m) (k := 32) (by omega) (by decide)
    rw [show (32 : Int32) = nI 32 from rfl, this, lN_i]
  have z : (nI (m / 2 ^ 32) = (0 : Int32)) = (m / 2 ^ 32 = 0) := propext (nI_eqI (b := 0) (by omega) (by decide))
  have hl := lg_le (k := 63) h0 h1
  rw [en54, u54_0, e]
  by_cases h : m < 4294967296
  · have hg := lg_le (k := 32) h0 h
    rw [if_neg (by rw [z]; omega), u54_10, lN_i, c55 h0 h]
    simp only [Option.toList_some, List.cons_append, List.nil_append]
    rw [u54_17, u54_25, show (32 : Int32) = nI 32 from rfl, jI_n, jI_n, jI_add, jI_n, show ((32 : Nat) : Int) + ((31 - Nat.log2 m : Nat) : Int) = ((63 - Nat.log2 m : Nat) : Int) by omega]
  · have hd := lg_div (k := 32) (x := m) (by omega)
    rw [if_pos (by rw [z]; omega), u54_21, c55 (by omega) (by omega)]
    simp only [Option.toList_some, List.append_nil]
    rw [u54_25, show 31 - Nat.log2 (m / 2 ^ 32) = 63 - Nat.log2 m by omega]
theorem c53 {m : Nat} (h0 : 0 < m) (h1 : m < 9223372036854775808) : jm_c S 53 [.long (lN m)] H Q = Q (some (.int (nI (Nat.log2 m + 1)))) H := by
  have hl := lg_le (k := 63) h0 h1
  rw [en53, u53_0, c54 h0 h1]
  simp only [Option.toList_some, List.cons_append, List.nil_append]
  rw [u53_6, show (64 : Int32) = nI 64 from rfl, pk_sub (by omega), show 64 - (63 - Nat.log2 m) = Nat.log2 m + 1 by omega]
theorem c59 {r m : Nat} {p : Int} (ht : jm_tg H r = 3) (hm : jm_L H r 3 = lN m) (hp : jm_I H r 4 = jI p) (h0 : 0 < m) (h1 : m < 9223372036854775808) : jm_c S 59 [.ref r] H Q = Q (some (.int (jI (Nat.log2 m + p)))) H := by
  have hl := lg_le (k := 63) h0 h1
  rw [en59, u59_0 ht, hm, hp, c54 h0 h1]
  simp only [Option.toList_some, List.cons_append, List.nil_append]
  rw [u59_14, show (63 : Int32) = jI 63 from by decide, jI_add, jI_n, jI_sub, show p + 63 - ((63 - Nat.log2 m : Nat) : Int) = (Nat.log2 m : Int) + p by omega]
/-! a number moved by some bits -/
/-- divided, the last bit 1 for all that is lost -/
def jq_st (x d : Nat) : Nat := x / d ||| (if x % d = 0 then 0 else 1)
def jq_mv (x : Nat) (t : Int) : Nat := if 0 ≤ t then x * 2 ^ t.toNat else jq_st x (2 ^ (-t).toNat)
theorem i32_62 : (62 : Int32) = jI 62 := by decide
theorem i32_m62 : (-62 : Int32) = jI (-62) := by decide
theorem i2l_n (k : Nat) : Int32.toInt64 (jI (k : Int)) = Int32.toInt64 (nI k) := by rw [jI_n]
theorem c56 {x : Nat} {t : Int} (hx : x < 4611686018427387904) (ht : t ≤ 62) (ht2 : -100000 ≤ t) : jm_c S 56 [.long (lN x), .int (jI t)] H Q = Q (some (.long (lN (jq_mv x t)))) H := by
  have z : (lN x = (0 : Int64)) = (x = 0) := propext (lN_eqS (b := 0) (by omega) (by decide))
  rw [en56, u56_0, jI_0, if_ltI ⟨by omega, by omega⟩ (by decide)]
  by_cases h : t < 0
  · have em : jq_mv x t = jq_st x (2 ^ (-t).toNat) := by unfold jq_mv; rw [if_neg (by omega)]
    rw [if_pos h, u56_13, i32_m62, if_leI (by decide) ⟨by omega, by omega⟩, em]
    by_cases h2 : -62 ≤ t
    · obtain ⟨k, hk, rfl⟩ : ∃ k : Nat, k ≤ 62 ∧ t = -(k : Int) := ⟨(-t).toNat, by omega, by omega⟩
      have hp := Nat.two_pow_pos k
      have zm : (lN (x % 2 ^ k) = (0 : Int64)) = (x % 2 ^ k = 0) := propext (lN_eqS (b := 0) (by have := Nat.mod_le x (2 ^ k); omega) (by decide))
      rw [if_pos h2, u56_31, jI_neg, Int.neg_neg, ← jI_n, lN_p2 (by omega), lN_msk, lN_shr (by omega) (by omega), ite_eqP (congrArg Not (propext (lg_cmp0 _))), ite_eqP (congrArg Not zm), Int.toNat_natCast, u56_50, u56_54, u56_55, u56_55]
      unfold jq_st
      by_cases h3 : x % 2 ^ k = 0
      · rw [if_neg (fun g => g h3), if_pos h3, show Int32.toInt64 (0 : Int32) = lN 0 from by decide, lN_or]
      · rw [if_pos h3, if_neg h3, show Int32.toInt64 (1 : Int32) = lN 1 from by decide, lN_or]
    · have hb : x < 2 ^ (-t).toNat := Nat.lt_of_lt_of_le hx (p2_le (show 62 ≤ (-t).toNat by omega))
      rw [if_neg h2, u56_19, ite_eqP (congrArg Not (propext (lg_cmp0 _))), ite_eqP (congrArg Not z), u56_25, u56_29, u56_30, u56_30]
      unfold jq_st
      rw [Nat.div_eq_of_lt hb, Nat.mod_eq_of_lt hb]
      by_cases h3 : x = 0
      · rw [if_neg (fun g => g h3), if_pos h3]; rfl
      · rw [if_pos h3, if_neg h3]; rfl
  · obtain ⟨k, hk, rfl⟩ : ∃ k : Nat, k ≤ 62 ∧ t = (k : Int) := ⟨t.toNat, by omega, by omega⟩
    have em : jq_mv x k = x * 2 ^ k := by unfold jq_mv; rw [if_pos (by omega), Int.toNat_natCast]
    rw [if_neg h, u56_4, i32_62, c57 ⟨by omega, by omega⟩ (by decide)]
    simp only [Option.toList_some, List.cons_append, List.nil_append]
    rw [u56_11, show min (k : Int) 62 = k by omega, ← jI_n, lN_shl _ (by omega), em]
end NLZ
