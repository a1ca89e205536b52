set_option maxRecDepth 20000
/-! numbers times powers of 2, compared; a number written as a row without end -/
def jq_cmp (x y : Nat) : Int := if x < y then -1 else if x = y then 0 else 1
theorem jq_cmp_lt {x y : Nat} (h : x < y) : jq_cmp x y = -1 := if_pos h
theorem jq_cmp_eq (x : Nat) : jq_cmp x x = 0 := by
  unfold jq_cmp
  rw [if_neg (Nat.lt_irrefl x), if_pos rfl]
theorem jq_cmp_gt {x y : Nat} (h : y < x) : jq_cmp x y = 1 := by
  unfold jq_cmp
  rw [if_neg (by omega), if_neg (by omega)]
theorem jq_cmp_congr {x y x' y' : Nat} (h1 : x < y ↔ x' < y') (h2 : y < x ↔ y' < x') : jq_cmp x y = jq_cmp x' y' := by
  rcases Nat.lt_trichotomy x y with h | h | h
  · rw [jq_cmp_lt h, jq_cmp_lt (h1.mp h)]
  · have a : ¬ x' < y' := fun g => by
      have := h1.mpr g
      omega
    have b : ¬ y' < x' := fun g => by
      have := h2.mpr g
      omega
    have : x' = y' := by omega
    subst h
    subst this
    rw [jq_cmp_eq, jq_cmp_eq]
  · rw [jq_cmp_gt h, jq_cmp_gt (h2.mp h)]
theorem jq_cmp_mul {x y k : Nat} (h : 0 < k) : jq_cmp (x * k) (y * k) = jq_cmp x y := jq_cmp_congr (Nat.mul_lt_mul_right h) (Nat.mul_lt_mul_right h)
theorem jq_cmp_add (x y c : Nat) : jq_cmp (c + x) (c + y) = jq_cmp x y := jq_cmp_congr (by omega) (by omega)
/-- m times 2 to the p, told in units of 2 to the -256 -/
def jq_v (m : Nat) (p : Int) : Nat := m * 2 ^ (p + 256).toNat
theorem jq_v_sh (m : Nat) {p : Int} (k : Nat) (h : -256 ≤ p) : jq_v (m * 2 ^ k) p = jq_v m (p + k) := by
  unfold jq_v
  rw [show (p + k + 256).toNat = k + (p + 256).toNat by omega, Nat.pow_add, Nat.mul_assoc]
theorem jq_v_cmp (m m' : Nat) (p : Int) : jq_cmp (jq_v m p) (jq_v m' p) = jq_cmp m m' := jq_cmp_mul (Nat.two_pow_pos _)
/-- the bits of a head, and the head, of a scale -/
def jq_hb (w : Nat) (s : Int) : Nat := (if 0 ≤ s / ((2 ^ w : Nat) : Int) then (s / ((2 ^ w : Nat) : Int)).toNat + 2 else (1 - s / ((2 ^ w : Nat) : Int)).toNat) + w
def jq_hd (w : Nat) (s : Int) : Nat := (if 0 ≤ s / ((2 ^ w : Nat) : Int) then 2 ^ ((s / ((2 ^ w : Nat) : Int)).toNat + 2) - 2 else 1) * 2 ^ w + (s % ((2 ^ w : Nat) : Int)).toNat
def jq_all (f : Nat → Bool) : Nat → Bool
  | 0 => true
  | n + 1 => f n && jq_all f n
theorem jq_all_at {f : Nat → Bool} : ∀ {n : Nat}, jq_all f n = true → ∀ i, i < n → f i = true
  | 0, _, i, hi => absurd hi (Nat.not_lt_zero i)
  | n + 1, h, i, hi => by
    rw [jq_all, Bool.and_eq_true] at h
    by_cases e : i = n
    · rw [e]; exact h.1
    · exact jq_all_at h.2 i (by omega)
def jq_hck (w i : Nat) : Bool := decide ((jq_hd w ((i : Int) - 160) + 1) * 2 ^ jq_hb w ((i : Int) - 159) = jq_hd w ((i : Int) - 159) * 2 ^ jq_hb w ((i : Int) - 160))
theorem jq_hs0 : jq_all (jq_hck 0) 320 = true := by decide +kernel
theorem jq_hs1 : jq_all (jq_hck 1) 320 = true := by decide +kernel
theorem jq_hs2 : jq_all (jq_hck 2) 320 = true := by decide +kernel
theorem jq_hs {w : Nat} (hw : w ≤ 2) {s : Int} (h1 : -160 ≤ s) (h2 : s < 160) : (jq_hd w s + 1) * 2 ^ jq_hb w (s + 1) = jq_hd w (s + 1) * 2 ^ jq_hb w s := by
  obtain ⟨i, hi, rfl⟩ : ∃ i : Nat, i < 320 ∧ s = (i : Int) - 160 := ⟨(s + 160).toNat, by omega, by omega⟩
  rw [show (i : Int) - 160 + 1 = (i : Int) - 159 by omega]
  rcases (show w = 0 ∨ w = 1 ∨ w = 2 by omega) with rfl | rfl | rfl
  · exact of_decide_eq_true (jq_all_at jq_hs0 i hi)
  · exact of_decide_eq_true (jq_all_at jq_hs1 i hi)
  · exact of_decide_eq_true (jq_all_at jq_hs2 i hi)
theorem jq_step {a b c A P C : Nat} (hP : 0 < P) (ih : (a + 1) * P ≤ b * A) (st : (b + 1) * C = c * P) : (a + 1) * C ≤ c * A := by
  apply Nat.le_of_mul_le_mul_right (c := P) ?_ hP
  have h1 : (a + 1) * P * C ≤ b * A * C := Nat.mul_le_mul_right C ih
  have h2 : b * (A * C) ≤ (b + 1) * (A * C) := Nat.mul_le_mul_right _ (Nat.le_succ b)
  have e1 : (a + 1) * C * P = (a + 1) * P * C := by rw [Nat.mul_assoc, Nat.mul_comm C, Nat.mul_assoc]
  have e2 : c * A * P = (b + 1) * (A * C) := by
    rw [Nat.mul_assoc, Nat.mul_comm A P, ← Nat.mul_assoc, ← st, Nat.mul_assoc, Nat.mul_comm C]
  rw [e1, e2]
  rw [Nat.mul_assoc b] at h1
  exact Nat.le_trans h1 h2
theorem jq_hlt {w : Nat} (hw : w ≤ 2) {s : Int} (h1 : -160 ≤ s) : ∀ d : Nat, s + d + 1 ≤ 160 → (jq_hd w s + 1) * 2 ^ jq_hb w (s + d + 1) ≤ jq_hd w (s + d + 1) * 2 ^ jq_hb w s
  | 0, h => by
    have := jq_hs hw h1 (by omega)
    rw [show s + ((0 : Nat) : Int) + 1 = s + 1 by omega]
    exact Nat.le_of_eq this
  | d + 1, h => by
    have ih := jq_hlt hw h1 d (by omega)
    have st := jq_hs hw (s := s + d + 1) (by omega) (by omega)
    rw [show s + ((d + 1 : Nat) : Int) + 1 = s + d + 1 + 1 by omega]
    exact jq_step (Nat.two_pow_pos _) ih st
/-- the bits behind the sign, as a row without end has them -/
def jq_num (w m : Nat) (p : Int) : Nat := jq_hd w (Nat.log2 m + p) * 2 ^ Nat.log2 m + (m - 2 ^ Nat.log2 m)
def jq_e (w m : Nat) (p : Int) : Nat := jq_hb w (Nat.log2 m + p) + Nat.log2 m
theorem jq_v_lt {m m' : Nat} {p p' : Int} (h0 : 0 < m) (h0' : 0 < m') (hp : -256 ≤ p) (hp' : -256 ≤ p') (h : (Nat.log2 m : Int) + p < Nat.log2 m' + p') : jq_v m p < jq_v m' p' := by
  have a1 : m < 2 ^ (Nat.log2 m + 1) := Nat.lt_log2_self
  have a2 : 2 ^ Nat.log2 m' ≤ m' := Nat.log2_self_le (by omega)
  have b1 := (Nat.mul_lt_mul_right (Nat.two_pow_pos (p + 256).toNat)).mpr a1
  have b2 := Nat.mul_le_mul_right (2 ^ (p' + 256).toNat) a2
  rw [← Nat.pow_add] at b1 b2
  have b3 : 2 ^ (Nat.log2 m + 1 + (p + 256).toNat) ≤ 2 ^ (Nat.log2 m' + (p' + 256).toNat) := p2_le (by omega)
  unfold jq_v
  omega
theorem jq_mlt {w : Nat} (hw : w ≤ 2) {m m' : Nat} {p p' : Int} (h0 : 0 < m) (h0' : 0 < m') (hs : -160 ≤ (Nat.log2 m : Int) + p) (hs' : (Nat.log2 m' : Int) + p' ≤ 160) (h : (Nat.log2 m : Int) + p < Nat.log2 m' + p') : jq_num w m p * 2 ^ jq_e w m' p' < jq_num w m' p' * 2 ^ jq_e w m p := by
  have a1 : m < 2 ^ (Nat.log2 m + 1) := Nat.lt_log2_self
  have a3 : 2 ^ Nat.log2 m ≤ m := Nat.log2_self_le (by omega)
  have hh := jq_hlt hw hs (((Nat.log2 m' : Int) + p') - (Nat.log2 m + p) - 1).toNat (by omega)
  rw [show (Nat.log2 m : Int) + p + (((Nat.log2 m' : Int) + p') - (Nat.log2 m + p) - 1).toNat + 1 = Nat.log2 m' + p' by omega] at hh
  unfold jq_num jq_e
  generalize jq_hd w (Nat.log2 m + p) = g at *
  generalize jq_hd w (Nat.log2 m' + p') = g' at *
  generalize jq_hb w (Nat.log2 m + p) = k at *
  generalize jq_hb w (Nat.log2 m' + p') = k' at *
  generalize Nat.log2 m = b at *
  generalize Nat.log2 m' = b' at *
  rw [Nat.pow_succ] at a1
  have c1 : g * 2 ^ b + (m - 2 ^ b) < (g + 1) * 2 ^ b := by rw [Nat.add_mul, Nat.one_mul]; omega
  have c2 : (g * 2 ^ b + (m - 2 ^ b)) * 2 ^ (k' + b') < (g + 1) * 2 ^ b * 2 ^ (k' + b') := (Nat.mul_lt_mul_right (Nat.two_pow_pos _)).mpr c1
  have c3 : (g + 1) * 2 ^ b * 2 ^ (k' + b') = (g + 1) * 2 ^ k' * (2 ^ b * 2 ^ b') := by
    rw [Nat.pow_add]
    ac_rfl
  have c4 : (g + 1) * 2 ^ k' * (2 ^ b * 2 ^ b') ≤ g' * 2 ^ k * (2 ^ b * 2 ^ b') := Nat.mul_le_mul_right _ hh
  have c5 : g' * 2 ^ k * (2 ^ b * 2 ^ b') = g' * 2 ^ b' * 2 ^ (k + b) := by
    rw [Nat.pow_add]
    ac_rfl
  have c6 : g' * 2 ^ b' * 2 ^ (k + b) ≤ (g' * 2 ^ b' + (m' - 2 ^ b')) * 2 ^ (k + b) := Nat.mul_le_mul_right _ (Nat.le_add_right _ _)
  omega
theorem jq_meq {w : Nat} {m m' : Nat} {p p' : Int} (h0 : 0 < m) (h0' : 0 < m') (hp : -256 ≤ p) (hp' : -256 ≤ p') (h : (Nat.log2 m : Int) + p = Nat.log2 m' + p') : jq_cmp (jq_v m p) (jq_v m' p') = jq_cmp (jq_num w m p * 2 ^ jq_e w m' p') (jq_num w m' p' * 2 ^ jq_e w m p) := by
  have a3 : 2 ^ Nat.log2 m ≤ m := Nat.log2_self_le (by omega)
  have a4 : 2 ^ Nat.log2 m' ≤ m' := Nat.log2_self_le (by omega)
  unfold jq_num jq_e jq_v
  rw [← h]
  generalize jq_hd w (Nat.log2 m + p) = g
  generalize jq_hb w (Nat.log2 m + p) = k
  generalize Nat.log2 m = b at *
  generalize Nat.log2 m' = b' at *
  obtain ⟨f, rfl⟩ : ∃ f, m = 2 ^ b + f := ⟨m - 2 ^ b, by omega⟩
  obtain ⟨f', rfl⟩ : ∃ f', m' = 2 ^ b' + f' := ⟨m' - 2 ^ b', by omega⟩
  rw [Nat.add_sub_cancel_left, Nat.add_sub_cancel_left]
  have l1 : jq_cmp ((2 ^ b + f) * 2 ^ (p + 256).toNat) ((2 ^ b' + f') * 2 ^ (p' + 256).toNat) = jq_cmp (f * 2 ^ b') (f' * 2 ^ b) := by
    rw [← jq_cmp_mul (k := 2 ^ (b + b')) (Nat.two_pow_pos _)]
    have e1 : (2 ^ b + f) * 2 ^ (p + 256).toNat * 2 ^ (b + b') = (2 ^ b * 2 ^ b' + f * 2 ^ b') * 2 ^ (b + (p + 256).toNat) := by
      rw [Nat.pow_add, Nat.pow_add, Nat.add_mul, Nat.add_mul, Nat.add_mul]
      congr 1 <;> ac_rfl
    have e2 : (2 ^ b' + f') * 2 ^ (p' + 256).toNat * 2 ^ (b + b') = (2 ^ b * 2 ^ b' + f' * 2 ^ b) * 2 ^ (b + (p + 256).toNat) := by
      rw [show b + (p + 256).toNat = b' + (p' + 256).toNat by omega, Nat.pow_add, Nat.pow_add, Nat.add_mul, Nat.add_mul, Nat.add_mul]
      congr 1 <;> ac_rfl
    rw [e1, e2, jq_cmp_mul (Nat.two_pow_pos _), jq_cmp_add]
  have l2 : jq_cmp ((g * 2 ^ b + f) * 2 ^ (k + b')) ((g * 2 ^ b' + f') * 2 ^ (k + b)) = jq_cmp (f * 2 ^ b') (f' * 2 ^ b) := by
    have e1 : (g * 2 ^ b + f) * 2 ^ (k + b') = (g * (2 ^ b * 2 ^ b') + f * 2 ^ b') * 2 ^ k := by
      rw [Nat.pow_add, Nat.add_mul, Nat.add_mul]
      congr 1 <;> ac_rfl
    have e2 : (g * 2 ^ b' + f') * 2 ^ (k + b) = (g * (2 ^ b * 2 ^ b') + f' * 2 ^ b) * 2 ^ k := by
      rw [Nat.pow_add, Nat.add_mul, Nat.add_mul]
      congr 1 <;> ac_rfl
    rw [e1, e2, jq_cmp_mul (Nat.two_pow_pos _), jq_cmp_add]
  rw [l1, l2]
theorem jq_mono {w : Nat} (hw : w ≤ 2) {m m' : Nat} {p p' : Int} (h0 : 0 < m) (h0' : 0 < m') (hp : -256 ≤ p) (hp' : -256 ≤ p') (hs : -160 ≤ (Nat.log2 m : Int) + p ∧ (Nat.log2 m : Int) + p ≤ 160) (hs' : -160 ≤ (Nat.log2 m' : Int) + p' ∧ (Nat.log2 m' : Int) + p' ≤ 160) : jq_cmp (jq_v m p) (jq_v m' p') = jq_cmp (jq_num w m p * 2 ^ jq_e w m' p') (jq_num w m' p' * 2 ^ jq_e w m p) := by
  rcases Int.lt_trichotomy ((Nat.log2 m : Int) + p) (Nat.log2 m' + p') with h | h | h
  · rw [jq_cmp_lt (jq_v_lt h0 h0' hp hp' h), jq_cmp_lt (jq_mlt hw h0 h0' hs.1 hs'.2 h)]
  · exact jq_meq h0 h0' hp hp' h
  · rw [jq_cmp_gt (jq_v_lt h0' h0 hp' hp h), jq_cmp_gt (jq_mlt hw h0' h0 hs'.1 hs.2 h)]
