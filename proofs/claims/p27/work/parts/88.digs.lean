set_option maxRecDepth 20000
/-! decimals: the lists of signs -/
def jq_u10 : Nat → Nat → Nat → Nat
  | 0, u, _ => u
  | f + 1, u, V => if u * 10 ≤ V then jq_u10 f (u * 10) V else u
def jq_dgs : Nat → Nat → Nat → List Nat
  | 0, _, _ => []
  | f + 1, u, V => if u = 0 then [] else (48 + V / u % 10) :: jq_dgs f (u / 10) V
def jq_fd : Nat → Nat → Nat → List Nat
  | 0, _, _ => []
  | f + 1, k, r => if r = 0 then [] else (48 + r * 10 / 2 ^ k) :: jq_fd f k (r * 10 % 2 ^ k)
/-- whole digits, and those behind the point -/
def jq_wl (V k r : Nat) : List Nat := jq_dgs 18 (jq_u10 17 1 V) V ++ (if r = 0 then [] else 46 :: jq_fd 64 k r)
def jq_wuC (m : Nat) (p : Int) : List Nat := jq_wl (m * 2 ^ (max 0 (min p 48)).toNat / 2 ^ (max 0 (min (-p) 48)).toNat) (max 0 (min (-p) 48)).toNat (m % 2 ^ (max 0 (min (-p) 48)).toNat)
def jq_wuM (m : Nat) (p : Int) : List Nat := if p < 0 then jq_wl (m / 2 ^ (-p).toNat) (-p).toNat (m % 2 ^ (-p).toNat) else jq_wl (m * 2 ^ p.toNat) 0 0
theorem jq_fd_sc (t k : Nat) : ∀ f r, jq_fd f (k + t) (r * 2 ^ t) = jq_fd f k r
  | 0, _ => rfl
  | f + 1, r => by
    have h2 : 0 < 2 ^ t := Nat.two_pow_pos t
    have e2 : r * 2 ^ t * 10 / 2 ^ (k + t) = r * 10 / 2 ^ k := by
      rw [Nat.pow_add, Nat.mul_right_comm]
      exact Nat.mul_div_mul_right _ _ h2
    have e3 : r * 2 ^ t * 10 % 2 ^ (k + t) = r * 10 % 2 ^ k * 2 ^ t := by
      rw [Nat.pow_add, Nat.mul_right_comm]
      exact Nat.mul_mod_mul_right _ _ _
    show (if r * 2 ^ t = 0 then [] else (48 + r * 2 ^ t * 10 / 2 ^ (k + t)) :: jq_fd f (k + t) (r * 2 ^ t * 10 % 2 ^ (k + t))) = (if r = 0 then [] else (48 + r * 10 / 2 ^ k) :: jq_fd f k (r * 10 % 2 ^ k))
    rw [e2, e3, jq_fd_sc t k f]
    by_cases h : r = 0
    · rw [if_pos h, if_pos (by rw [h, Nat.zero_mul])]
    · rw [if_neg h, if_neg (fun g => h ((Nat.mul_eq_zero.mp g).resolve_right (by omega)))]
theorem jq_fd_in {k : Nat} : ∀ f r j, r < 2 ^ k → j ≤ k → 2 ^ (k - j) ∣ r → (jq_fd f k r).length ≤ j ∧ ∀ c, c ∈ jq_fd f k r → c < 128
  | 0, _, _, _, _, _ => ⟨Nat.zero_le _, fun c h => by cases h⟩
  | f + 1, r, j, h1, h2, h3 => by
    have hk : 0 < 2 ^ k := Nat.two_pow_pos k
    show (if r = 0 then [] else (48 + r * 10 / 2 ^ k) :: jq_fd f k (r * 10 % 2 ^ k)).length ≤ j ∧ ∀ c, c ∈ (if r = 0 then [] else (48 + r * 10 / 2 ^ k) :: jq_fd f k (r * 10 % 2 ^ k)) → c < 128
    by_cases h : r = 0
    · rw [if_pos h]
      exact ⟨Nat.zero_le _, fun c h => by cases h⟩
    · rw [if_neg h]
      have hj : 0 < j := by
        apply Nat.pos_of_ne_zero
        intro g
        subst g
        exact absurd (Nat.le_of_dvd (by omega) h3) (by rw [Nat.sub_zero]; omega)
      have hd : 2 ^ (k - (j - 1)) ∣ r * 10 % 2 ^ k := by
        apply (Nat.dvd_mod_iff (Nat.pow_dvd_pow 2 (by omega))).mpr
        rw [show k - (j - 1) = k - j + 1 by omega, Nat.pow_succ, show (10 : Nat) = 2 * 5 from rfl, ← Nat.mul_assoc]
        exact Nat.dvd_trans (Nat.mul_dvd_mul_right h3 2) (Nat.dvd_mul_right _ _)
      obtain ⟨g1, g2⟩ := jq_fd_in f (r * 10 % 2 ^ k) (j - 1) (Nat.mod_lt _ hk) (by omega) hd
      refine ⟨?_, fun c hc => ?_⟩
      · rw [List.length_cons]
        omega
      · rcases List.mem_cons.mp hc with e | e
        · have : r * 10 / 2 ^ k < 10 := (Nat.div_lt_iff_lt_mul hk).mpr (by omega)
          omega
        · exact g2 c e
theorem jq_dgs_in : ∀ f u V, (jq_dgs f u V).length ≤ f ∧ ∀ c, c ∈ jq_dgs f u V → c < 128
  | 0, _, _ => ⟨Nat.le_refl _, fun c h => by cases h⟩
  | f + 1, u, V => by
    show (if u = 0 then [] else (48 + V / u % 10) :: jq_dgs f (u / 10) V).length ≤ f + 1 ∧ ∀ c, c ∈ (if u = 0 then [] else (48 + V / u % 10) :: jq_dgs f (u / 10) V) → c < 128
    by_cases h : u = 0
    · rw [if_pos h]
      exact ⟨Nat.zero_le _, fun c h => by cases h⟩
    · rw [if_neg h]
      obtain ⟨g1, g2⟩ := jq_dgs_in f (u / 10) V
      refine ⟨by rw [List.length_cons]; omega, fun c hc => ?_⟩
      rcases List.mem_cons.mp hc with e | e
      · have : V / u % 10 < 10 := Nat.mod_lt _ (by omega)
        omega
      · exact g2 c e
theorem jq_wl_in {V k r : Nat} (hk : k ≤ 50) (hr : r < 2 ^ k) : (jq_wl V k r).length ≤ 70 ∧ ∀ c, c ∈ jq_wl V k r → c < 128 := by
  unfold jq_wl
  obtain ⟨a1, a2⟩ := jq_dgs_in 18 (jq_u10 17 1 V) V
  by_cases h : r = 0
  · rw [if_pos h, List.append_nil]
    exact ⟨by omega, a2⟩
  · rw [if_neg h]
    obtain ⟨b1, b2⟩ := jq_fd_in 64 r k hr (Nat.le_refl k) (by rw [Nat.sub_self]; exact Nat.one_dvd r)
    refine ⟨by rw [List.length_append, List.length_cons]; omega, fun c hc => ?_⟩
    rcases List.mem_append.mp hc with e | e
    · exact a2 c e
    · rcases List.mem_cons.mp e with e | e
      · omega
      · exact b2 c e
theorem jq_wl_sc (t k V r : Nat) : jq_wl V (k + t) (r * 2 ^ t) = jq_wl V k r := by
  unfold jq_wl
  rw [jq_fd_sc]
  by_cases h : r = 0
  · rw [if_pos h, if_pos (by rw [h, Nat.zero_mul])]
  · have h2 : 0 < 2 ^ t := Nat.two_pow_pos t
    rw [if_neg h, if_neg (fun g => h ((Nat.mul_eq_zero.mp g).resolve_right (by omega)))]
/-- the odd part and its power say the same digits as the row's own -/
theorem jq_wu_eq {m t : Nat} {p : Int} (h1 : -48 ≤ p) (h2 : p ≤ 48) : jq_wuC m p = jq_wuM (m * 2 ^ t) (p - t) := by
  have ht : 0 < 2 ^ t := Nat.two_pow_pos t
  unfold jq_wuC jq_wuM
  by_cases hp : 0 ≤ p
  · obtain ⟨a, rfl⟩ := Int.eq_ofNat_of_zero_le hp
    rw [show (max 0 (min ((a : Nat) : Int) 48)).toNat = a by omega, show (max 0 (min (-((a : Nat) : Int)) 48)).toNat = 0 by omega, Nat.pow_zero, Nat.div_one, Nat.mod_one]
    by_cases hq : (a : Int) - (t : Nat) < 0
    · rw [if_pos hq, show (-((a : Int) - (t : Nat))).toNat = t - a by omega]
      have e : m * 2 ^ t = m * 2 ^ a * 2 ^ (t - a) := by rw [Nat.mul_assoc, ← Nat.pow_add, show a + (t - a) = t by omega]
      rw [e, Nat.mul_div_cancel _ (Nat.two_pow_pos _), Nat.mul_mod_left]
      have := jq_wl_sc (t - a) 0 (m * 2 ^ a) 0
      rw [Nat.zero_mul, Nat.zero_add] at this
      exact this.symm
    · rw [if_neg hq, show ((a : Int) - (t : Nat)).toNat = a - t by omega, Nat.mul_assoc, ← Nat.pow_add, show t + (a - t) = a by omega]
  · obtain ⟨a, ha⟩ := Int.eq_ofNat_of_zero_le (show (0 : Int) ≤ -p by omega)
    obtain rfl : p = -((a : Nat) : Int) := by omega
    rw [show (max 0 (min (-((a : Nat) : Int)) 48)).toNat = 0 by omega, show (max 0 (min (-(-((a : Nat) : Int))) 48)).toNat = a by omega, Nat.pow_zero, Nat.mul_one, if_pos (by omega), show (-(-((a : Nat) : Int) - (t : Nat))).toNat = a + t by omega, Nat.pow_add, Nat.mul_div_mul_right _ _ ht, Nat.mul_mod_mul_right, jq_wl_sc]
theorem jq_wuC_in {m : Nat} {p : Int} : (jq_wuC m p).length ≤ 70 ∧ ∀ c, c ∈ jq_wuC m p → c < 128 := by
  unfold jq_wuC
  exact jq_wl_in (by omega) (Nat.mod_lt _ (Nat.two_pow_pos _))
theorem jq_d_all {n w A : Nat} (h1 : 3 ≤ n) (h2 : n ≤ 12) (hw : w ≤ 2) (hA : 0 < A) (hA2 : A < 2 ^ (n - 1)) : jq_wuC (jq_om n w A) (jq_op n w A) = jq_wuM (jf_mant n w A) (jf_pow n w A) ∧ (jq_wuM (jf_mant n w A) (jf_pow n w A)).length ≤ 70 ∧ ∀ c, c ∈ jq_wuM (jf_mant n w A) (jf_pow n w A) → c < 128 := by
  have hb := jq_om_pos h1 h2 hw hA hA2
  have e := jq_wu_eq (m := jq_om n w A) (t := jf_tz 12 (jf_mant n w A)) (p := jq_op n w A) (by omega) (by omega)
  rw [jq_om_m, show jq_op n w A - (jf_tz 12 (jf_mant n w A) : Nat) = jf_pow n w A by unfold jq_op; omega] at e
  rw [← e]
  exact ⟨rfl, jq_wuC_in⟩
