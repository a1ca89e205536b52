set_option maxRecDepth 20000
/-! a row above 0 is its value's bits: by the kernel, row by row -/
def jq_rf (n w A : Nat) : Bool := decide (jq_num w (jf_mant n w A) (jf_pow n w A) * 2 ^ (n - 1) = A * 2 ^ jq_e w (jf_mant n w A) (jf_pow n w A)) && decide (0 < jf_mant n w A ∧ jf_mant n w A < 2 ^ (n - 1)) && decide (-44 ≤ jf_pow n w A ∧ jf_pow n w A ≤ 44) && decide (-44 ≤ (Nat.log2 (jf_mant n w A) : Int) + jf_pow n w A ∧ (Nat.log2 (jf_mant n w A) : Int) + jf_pow n w A ≤ 44)
def jq_rfs (n w : Nat) : Bool := jq_all (fun i => jq_rf n w (i + 1)) (2 ^ (n - 1) - 1)
theorem jq_rf3 : jq_all (jq_rfs 3) 3 = true := by decide +kernel
theorem jq_rf4 : jq_all (jq_rfs 4) 3 = true := by decide +kernel
theorem jq_rf5 : jq_all (jq_rfs 5) 3 = true := by decide +kernel
theorem jq_rf6 : jq_all (jq_rfs 6) 3 = true := by decide +kernel
theorem jq_rf7 : jq_all (jq_rfs 7) 3 = true := by decide +kernel
theorem jq_rf8 : jq_all (jq_rfs 8) 3 = true := by decide +kernel
theorem jq_rf9 : jq_all (jq_rfs 9) 3 = true := by decide +kernel
theorem jq_rf10 : jq_all (jq_rfs 10) 3 = true := by decide +kernel
theorem jq_rf11_0 : jq_rfs 11 0 = true := by decide +kernel
theorem jq_rf11_1 : jq_rfs 11 1 = true := by decide +kernel
theorem jq_rf11_2 : jq_rfs 11 2 = true := by decide +kernel
theorem jq_rf12_0 : jq_rfs 12 0 = true := by decide +kernel
theorem jq_rf12_1 : jq_rfs 12 1 = true := by decide +kernel
theorem jq_rf12_2 : jq_rfs 12 2 = true := by decide +kernel
theorem jq_rf13_0 : jq_rfs 13 0 = true := by decide +kernel
theorem jq_rf13_1 : jq_rfs 13 1 = true := by decide +kernel
theorem jq_rf13_2 : jq_rfs 13 2 = true := by decide +kernel
theorem jq_w3 {P : Nat → Bool} {w : Nat} (hw : w ≤ 2) (h0 : P 0 = true) (h1 : P 1 = true) (h2 : P 2 = true) : P w = true := by
  match w, hw with
  | 0, _ => exact h0
  | 1, _ => exact h1
  | 2, _ => exact h2
theorem jq_rfa {n w : Nat} (h1 : 3 ≤ n) (h2 : n ≤ 13) (hw : w ≤ 2) : jq_rfs n w = true := by
  match n, h1, h2 with
  | 3, _, _ => exact jq_all_at jq_rf3 w (by omega)
  | 4, _, _ => exact jq_all_at jq_rf4 w (by omega)
  | 5, _, _ => exact jq_all_at jq_rf5 w (by omega)
  | 6, _, _ => exact jq_all_at jq_rf6 w (by omega)
  | 7, _, _ => exact jq_all_at jq_rf7 w (by omega)
  | 8, _, _ => exact jq_all_at jq_rf8 w (by omega)
  | 9, _, _ => exact jq_all_at jq_rf9 w (by omega)
  | 10, _, _ => exact jq_all_at jq_rf10 w (by omega)
  | 11, _, _ => exact jq_w3 hw jq_rf11_0 jq_rf11_1 jq_rf11_2
  | 12, _, _ => exact jq_w3 hw jq_rf12_0 jq_rf12_1 jq_rf12_2
  | 13, _, _ => exact jq_w3 hw jq_rf13_0 jq_rf13_1 jq_rf13_2
theorem jq_row {n w A : Nat} (h1 : 3 ≤ n) (h2 : n ≤ 13) (hw : w ≤ 2) (hA : 0 < A) (hA2 : A < 2 ^ (n - 1)) : jq_num w (jf_mant n w A) (jf_pow n w A) * 2 ^ (n - 1) = A * 2 ^ jq_e w (jf_mant n w A) (jf_pow n w A) ∧ (0 < jf_mant n w A ∧ jf_mant n w A < 2 ^ (n - 1)) ∧ (-44 ≤ jf_pow n w A ∧ jf_pow n w A ≤ 44) ∧ -44 ≤ (Nat.log2 (jf_mant n w A) : Int) + jf_pow n w A ∧ (Nat.log2 (jf_mant n w A) : Int) + jf_pow n w A ≤ 44 := by
  have h : jq_rf n w (A - 1 + 1) = true := jq_all_at (jq_rfa h1 h2 hw) (A - 1) (by omega)
  rw [Nat.sub_add_cancel hA] at h
  unfold jq_rf at h
  simp only [Bool.and_eq_true, decide_eq_true_eq] at h
  exact ⟨h.1.1.1, h.1.1.2, h.1.2, h.2⟩
/-- a number against a row's value -/
theorem jq_vrow {n w A m : Nat} {p : Int} (h1 : 3 ≤ n) (h2 : n ≤ 13) (hw : w ≤ 2) (hA : 0 < A) (hA2 : A < 2 ^ (n - 1)) (h0 : 0 < m) (hp : -256 ≤ p) (hs : -160 ≤ (Nat.log2 m : Int) + p ∧ (Nat.log2 m : Int) + p ≤ 160) : jq_cmp (jq_v m p) (jq_v (jf_mant n w A) (jf_pow n w A)) = jq_cmp (jq_num w m p * 2 ^ (n - 1)) (A * 2 ^ jq_e w m p) := by
  obtain ⟨e, hm, hq, hc⟩ := jq_row h1 h2 hw hA hA2
  rw [jq_mono hw h0 hm.1 hp (by omega) hs ⟨by omega, by omega⟩]
  rw [← jq_cmp_mul (k := 2 ^ (n - 1)) (Nat.two_pow_pos _)]
  have e1 : jq_num w (jf_mant n w A) (jf_pow n w A) * 2 ^ jq_e w m p * 2 ^ (n - 1) = A * 2 ^ jq_e w m p * 2 ^ jq_e w (jf_mant n w A) (jf_pow n w A) := by
    rw [Nat.mul_right_comm, e, Nat.mul_right_comm]
  rw [e1, Nat.mul_right_comm, jq_cmp_mul (Nat.two_pow_pos _)]
/-! to the nearest row -/
def jq_R (N a K : Nat) : Nat × Int := if a < K then (1, 1) else if (2 ^ (N - 1) - 1) * K < a then (2 ^ (N - 1) - 1, -1) else if a % K = 0 then (a / K, 0) else if K < 2 * (a % K) ∨ (2 * (a % K) = K ∧ a / K % 2 = 1) then (a / K + 1, 1) else (a / K, -1)
def jq_rd (N w m : Nat) (p : Int) : Nat × Int := jq_R N (jq_num w m p * 2 ^ (N - 1)) (2 ^ jq_e w m p)
def jq_cut (x : Nat) (t : Int) : Nat × Int := if t ≤ 0 then (x * 2 ^ (-t).toNat, 0) else if x % 2 ^ t.toNat = 0 then (x / 2 ^ t.toNat, 0) else if 2 ^ t.toNat < 2 * (x % 2 ^ t.toNat) ∨ (2 * (x % 2 ^ t.toNat) = 2 ^ t.toNat ∧ x / 2 ^ t.toNat % 2 = 1) then (x / 2 ^ t.toNat + 1, 1) else (x / 2 ^ t.toNat, -1)
theorem jq_top_ed {N w : Nat} (h : 2 ≤ N) : ((((N - 2) * 2 ^ w : Nat) : Int) / ((2 ^ w : Nat) : Int) = ((N - 2 : Nat) : Int)) ∧ ((((N - 2) * 2 ^ w : Nat) : Int) % ((2 ^ w : Nat) : Int) = 0) := by
  have hp := Nat.two_pow_pos w
  constructor
  · rw [← Int.natCast_ediv, Nat.mul_div_cancel _ hp]
  · rw [← Int.natCast_emod, Nat.mul_mod_left]; rfl
theorem jq_bot_ed {N w : Nat} (h : 2 ≤ N) : (-(((N - 2) * 2 ^ w : Nat) : Int) / ((2 ^ w : Nat) : Int) = -((N - 2 : Nat) : Int)) ∧ (-(((N - 2) * 2 ^ w : Nat) : Int) % ((2 ^ w : Nat) : Int) = 0) := by
  have hp := Nat.two_pow_pos w
  rw [Int.natCast_mul, ← Int.neg_mul]
  constructor
  · rw [Int.mul_ediv_cancel _ (by omega)]
  · rw [Int.mul_emod_left]
theorem jq_hd_top {N w : Nat} (h : 2 ≤ N) : jq_hd w ((((N - 2) * 2 ^ w : Nat) : Int)) = (2 ^ N - 2) * 2 ^ w := by
  unfold jq_hd
  rw [(jq_top_ed h).1, (jq_top_ed h).2, if_pos (by omega), Int.toNat_natCast, Nat.sub_add_cancel h]
  rfl
theorem jq_hb_top {N w : Nat} (h : 2 ≤ N) : jq_hb w ((((N - 2) * 2 ^ w : Nat) : Int)) = N + w := by
  unfold jq_hb
  rw [(jq_top_ed h).1, if_pos (by omega), Int.toNat_natCast, Nat.sub_add_cancel h]
theorem jq_hd_bot {N w : Nat} (h : 3 ≤ N) : jq_hd w (-(((N - 2) * 2 ^ w : Nat) : Int)) = 2 ^ w := by
  unfold jq_hd
  rw [(jq_bot_ed (by omega)).1, (jq_bot_ed (by omega)).2, if_neg (by omega), Nat.one_mul]
  rfl
theorem jq_hb_bot {N w : Nat} (h : 3 ≤ N) : jq_hb w (-(((N - 2) * 2 ^ w : Nat) : Int)) = N - 1 + w := by
  unfold jq_hb
  rw [(jq_bot_ed (by omega)).1, if_neg (by omega), show (1 - -((N - 2 : Nat) : Int)).toNat = N - 1 by omega]
theorem jq_num1 (w : Nat) (p : Int) : jq_num w 1 p = jq_hd w p := by
  unfold jq_num
  rw [show Nat.log2 1 = 0 from by decide, show (((0 : Nat) : Int) + p) = p by omega]
  simp
theorem jq_e1 (w : Nat) (p : Int) : jq_e w 1 p = jq_hb w p := by
  unfold jq_e
  rw [show Nat.log2 1 = 0 from by decide, show (((0 : Nat) : Int) + p) = p by omega, Nat.add_zero]
theorem jq_log1 : Nat.log2 1 = 0 := by decide
section RD
variable {N w m : Nat} {p : Int}
theorem jq_tb (h1 : 3 ≤ N) (h2 : N ≤ 12) (hw : w ≤ 2) : (N - 2) * 2 ^ w ≤ 40 := by
  have : 2 ^ w ≤ 4 := p2_le (m := 2) hw
  have := Nat.mul_le_mul (show N - 2 ≤ 10 by omega) this
  omega
theorem jq_above (h1 : 3 ≤ N) (h2 : N ≤ 12) (hw : w ≤ 2) (h0 : 0 < m) (hs : (Nat.log2 m : Int) + p ≤ 160) (h : (((N - 2) * 2 ^ w : Nat) : Int) < Nat.log2 m + p) : (2 ^ (N - 1) - 1) * 2 ^ jq_e w m p < jq_num w m p * 2 ^ (N - 1) := by
  have tb := jq_tb h1 h2 hw
  have := jq_mlt (m := 1) (m' := m) (p := (((N - 2) * 2 ^ w : Nat) : Int)) (p' := p) hw (by decide) h0 (by rw [jq_log1]; omega) hs (by rw [jq_log1]; omega)
  rw [jq_num1, jq_e1, jq_hd_top (by omega), jq_hb_top (by omega)] at this
  have e1 : (2 ^ N - 2) * 2 ^ w * 2 ^ jq_e w m p = (2 ^ (N - 1) - 1) * 2 ^ jq_e w m p * 2 ^ (1 + w) := by
    have : 2 ^ N - 2 = (2 ^ (N - 1) - 1) * 2 := by rw [Nat.sub_mul, Nat.one_mul, ← p2_half (show 1 ≤ N by omega), Nat.mul_comm 2]
    rw [this, Nat.pow_add, Nat.pow_one]
    ac_rfl
  have e2 : jq_num w m p * 2 ^ (N + w) = jq_num w m p * 2 ^ (N - 1) * 2 ^ (1 + w) := by
    rw [Nat.mul_assoc, ← Nat.pow_add, show N - 1 + (1 + w) = N + w by omega]
  rw [e1, e2] at this
  exact Nat.lt_of_mul_lt_mul_right this
theorem jq_below (h1 : 3 ≤ N) (h2 : N ≤ 12) (hw : w ≤ 2) (h0 : 0 < m) (hs : -160 ≤ (Nat.log2 m : Int) + p) (h : (Nat.log2 m : Int) + p < -(((N - 2) * 2 ^ w : Nat) : Int)) : jq_num w m p * 2 ^ (N - 1) < 2 ^ jq_e w m p := by
  have tb := jq_tb h1 h2 hw
  have := jq_mlt (m := m) (m' := 1) (p := p) (p' := -(((N - 2) * 2 ^ w : Nat) : Int)) hw h0 (by decide) hs (by rw [jq_log1]; omega) (by rw [jq_log1]; omega)
  rw [jq_num1, jq_e1, jq_hd_bot h1, jq_hb_bot h1, Nat.pow_add, ← Nat.mul_assoc, Nat.mul_comm (2 ^ w)] at this
  exact Nat.lt_of_mul_lt_mul_right this
theorem jq_nbelow (h1 : 3 ≤ N) (h2 : N ≤ 12) (hw : w ≤ 2) (h0 : 0 < m) (hs : (Nat.log2 m : Int) + p ≤ 160) (h : -(((N - 2) * 2 ^ w : Nat) : Int) ≤ (Nat.log2 m : Int) + p) : 2 ^ jq_e w m p ≤ jq_num w m p * 2 ^ (N - 1) := by
  have tb := jq_tb h1 h2 hw
  by_cases he : (Nat.log2 m : Int) + p = -(((N - 2) * 2 ^ w : Nat) : Int)
  · unfold jq_num jq_e
    rw [he, jq_hd_bot h1, jq_hb_bot h1, Nat.pow_add, Nat.pow_add, Nat.add_mul, show 2 ^ (N - 1) * 2 ^ w * 2 ^ Nat.log2 m = 2 ^ w * 2 ^ Nat.log2 m * 2 ^ (N - 1) by ac_rfl]
    exact Nat.le_add_right _ _
  · have := jq_mlt (m := 1) (m' := m) (p := -(((N - 2) * 2 ^ w : Nat) : Int)) (p' := p) hw (by decide) h0 (by rw [jq_log1]; omega) hs (by rw [jq_log1]; omega)
    rw [jq_num1, jq_e1, jq_hd_bot h1, jq_hb_bot h1, Nat.pow_add, ← Nat.mul_assoc, Nat.mul_comm (2 ^ w)] at this
    exact Nat.le_of_lt (Nat.lt_of_mul_lt_mul_right this)
/-- between the least and the greatest: the first bits, and what is cut off -/
theorem jq_mid (h1 : 3 ≤ N) (h2 : N ≤ 12) (hw : w ≤ 2) (h0 : 0 < m) (hs : -(((N - 2) * 2 ^ w : Nat) : Int) ≤ (Nat.log2 m : Int) + p ∧ (Nat.log2 m : Int) + p ≤ (((N - 2) * 2 ^ w : Nat) : Int)) : jq_cut (jq_num w m p) ((jq_e w m p : Int) - (N - 1 : Nat)) = jq_rd N w m p := by
  have tb := jq_tb h1 h2 hw
  have hb := jq_nbelow h1 h2 hw h0 (by omega) hs.1
  have hD := Nat.two_pow_pos (N - 1)
  unfold jq_rd jq_R
  rw [if_neg (by omega)]
  have htop : (Nat.log2 m : Int) + p = (((N - 2) * 2 ^ w : Nat) : Int) → jq_num w m p = (2 ^ (N - 1) - 1) * 2 ^ (jq_e w m p - (N - 1)) + (m - 2 ^ Nat.log2 m) ∧ jq_e w m p - (N - 1) = w + Nat.log2 m + 1 ∧ N - 1 < jq_e w m p := by
    intro he
    have e : jq_e w m p = N + w + Nat.log2 m := by
      unfold jq_e
      rw [he, jq_hb_top (by omega)]
    refine ⟨?_, by omega, by omega⟩
    rw [e, show N + w + Nat.log2 m - (N - 1) = 1 + w + Nat.log2 m by omega]
    unfold jq_num
    rw [he, jq_hd_top (by omega), Nat.pow_add, Nat.pow_add, Nat.pow_one]
    have : 2 ^ N - 2 = (2 ^ (N - 1) - 1) * 2 := by rw [Nat.sub_mul, Nat.one_mul, ← p2_half (show 1 ≤ N by omega), Nat.mul_comm 2]
    rw [this]
    congr 1
    ac_rfl
  have hnt : (Nat.log2 m : Int) + p ≠ (((N - 2) * 2 ^ w : Nat) : Int) → jq_num w m p * 2 ^ (N - 1) < (2 ^ (N - 1) - 1) * 2 ^ jq_e w m p := by
    intro he
    have := jq_mlt (m := m) (m' := 1) (p := p) (p' := (((N - 2) * 2 ^ w : Nat) : Int)) hw h0 (by decide) (by omega) (by rw [jq_log1]; omega) (by rw [jq_log1]; omega)
    rw [jq_num1, jq_e1, jq_hd_top (by omega), jq_hb_top (by omega)] at this
    have e1 : (2 ^ N - 2) * 2 ^ w * 2 ^ jq_e w m p = (2 ^ (N - 1) - 1) * 2 ^ jq_e w m p * 2 ^ (1 + w) := by
      have : 2 ^ N - 2 = (2 ^ (N - 1) - 1) * 2 := by rw [Nat.sub_mul, Nat.one_mul, ← p2_half (show 1 ≤ N by omega), Nat.mul_comm 2]
      rw [this, Nat.pow_add, Nat.pow_one]
      ac_rfl
    have e2 : jq_num w m p * 2 ^ (N + w) = jq_num w m p * 2 ^ (N - 1) * 2 ^ (1 + w) := by
      rw [Nat.mul_assoc, ← Nat.pow_add, show N - 1 + (1 + w) = N + w by omega]
    rw [e1, e2] at this
    exact Nat.lt_of_mul_lt_mul_right this
  have a1 : m < 2 ^ (Nat.log2 m + 1) := Nat.lt_log2_self
  have a3 : 2 ^ Nat.log2 m ≤ m := Nat.log2_self_le (by omega)
  generalize jq_num w m p = x at *
  generalize jq_e w m p = e at *
  unfold jq_cut
  by_cases ht : (e : Int) - (N - 1 : Nat) ≤ 0
  · have hnt' := hnt (fun he => by have := (htop he).2.2; omega)
    have e1 : x * 2 ^ (N - 1) = x * 2 ^ (N - 1 - e) * 2 ^ e := by rw [Nat.mul_assoc, ← Nat.pow_add, show N - 1 - e + e = N - 1 by omega]
    rw [if_pos ht, if_neg (by omega), e1, Nat.mul_mod_left, if_pos rfl, Nat.mul_div_cancel _ (Nat.two_pow_pos e), show (-((e : Int) - (N - 1 : Nat))).toNat = N - 1 - e by omega]
  · rw [if_neg ht, show ((e : Int) - (N - 1 : Nat)).toNat = e - (N - 1) by omega]
    have e1 : 2 ^ e = 2 ^ (e - (N - 1)) * 2 ^ (N - 1) := by rw [← Nat.pow_add, show e - (N - 1) + (N - 1) = e by omega]
    have ht0 := Nat.two_pow_pos (e - (N - 1))
    have ed : x * 2 ^ (N - 1) / 2 ^ e = x / 2 ^ (e - (N - 1)) := by rw [e1, Nat.mul_div_mul_right _ _ hD]
    have em : x * 2 ^ (N - 1) % 2 ^ e = x % 2 ^ (e - (N - 1)) * 2 ^ (N - 1) := by rw [e1, Nat.mul_mod_mul_right]
    have z : (x % 2 ^ (e - (N - 1)) * 2 ^ (N - 1) = 0) = (x % 2 ^ (e - (N - 1)) = 0) := by
      apply propext
      constructor
      · intro h
        rcases Nat.mul_eq_zero.mp h with h | h
        · exact h
        · omega
      · intro h
        rw [h, Nat.zero_mul]
    have g1 : (2 ^ e < 2 * (x % 2 ^ (e - (N - 1)) * 2 ^ (N - 1))) = (2 ^ (e - (N - 1)) < 2 * (x % 2 ^ (e - (N - 1)))) := by
      rw [e1, ← Nat.mul_assoc]
      exact propext (Nat.mul_lt_mul_right hD)
    have g2 : (2 * (x % 2 ^ (e - (N - 1)) * 2 ^ (N - 1)) = 2 ^ e) = (2 * (x % 2 ^ (e - (N - 1))) = 2 ^ (e - (N - 1))) := by
      rw [e1, ← Nat.mul_assoc]
      exact propext ⟨fun h => Nat.eq_of_mul_eq_mul_right hD h, fun h => by rw [h]⟩
    rw [ed, em]
    simp only [z, g1, g2]
    by_cases hgt : (2 ^ (N - 1) - 1) * 2 ^ e < x * 2 ^ (N - 1)
    · have he : (Nat.log2 m : Int) + p = (((N - 2) * 2 ^ w : Nat) : Int) := Classical.byContradiction fun he => by
        have := hnt he
        omega
      obtain ⟨t1, t2, _⟩ := htop he
      have hf : m - 2 ^ Nat.log2 m < 2 ^ Nat.log2 m := by
        rw [Nat.pow_succ] at a1
        omega
      have hf2 : 2 * 2 ^ Nat.log2 m ≤ 2 ^ (e - (N - 1)) := by
        rw [t2, Nat.mul_comm, ← Nat.pow_succ]
        exact p2_le (by omega)
      have q1 : x / 2 ^ (e - (N - 1)) = 2 ^ (N - 1) - 1 := by
        rw [t1, Nat.mul_comm, Nat.mul_add_div ht0, Nat.div_eq_of_lt (by omega), Nat.add_zero]
      have q2 : x % 2 ^ (e - (N - 1)) = m - 2 ^ Nat.log2 m := by
        rw [t1, Nat.mul_comm, Nat.mul_add_mod, Nat.mod_eq_of_lt (by omega)]
      have hx : ¬ x % 2 ^ (e - (N - 1)) = 0 := by
        intro h
        have hz : m - 2 ^ Nat.log2 m = 0 := by rw [← q2]; exact h
        rw [hz, Nat.add_zero] at t1
        rw [t1, e1, ← Nat.mul_assoc] at hgt
        omega
      rw [if_pos hgt, if_neg hx, q1, q2, if_neg (by omega)]
    · rw [if_neg hgt]
end RD
