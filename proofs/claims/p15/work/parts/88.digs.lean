set_option maxRecDepth 20000
/-! decimals: the lists of signs -/
def jq_u10 : Nat → Nat → Nat → Nat
  | 0, u, _ => u
  | f + 1, u, V => if u * 10 ≤ V then jq_u10 f (u * 10) V else u
def jq_dgs : Nat → Nat → Nat → List Nat
  | 0, _, _ => []
  | f + 1, u, V => if u = 0 then [] else (48 + V / u % 10) :: jq_dgs f (u / 10) V
def jq_fd : Nat → Nat → Nat → List Nat
  | 0, _, _ => []
  | f + 1, k, r => if r = 0 then [] else (48 + r * 10 / 2 ^ k) :: jq_fd f k (r * 10 % 2 ^ k)
/-- whole digits, and those behind the point -/
def jq_wl (V k r : Nat) : List Nat := jq_dgs 18 (jq_u10 17 1 V) V ++ (if r = 0 then [] else 46 :: jq_fd 64 k r)
def jq_wuC (m : Nat) (p : Int) : List Nat := jq_wl (m * 2 ^ (max 0 (min p 48)).toNat / 2 ^ (max 0 (min (-p) 48)).toNat) (max 0 (min (-p) 48)).toNat (m % 2 ^ (max 0 (min (-p) 48)).toNat)
def jq_wuM (m : Nat) (p : Int) : List Nat := if p < 0 then jq_wl (m / 2 ^ (-p).toNat) (-p).toNat (m % 2 ^ (-p).toNat) else jq_wl (m * 2 ^ p.toNat) 0 0
def jq_dck (n w i : Nat) : Bool := decide (jq_wuC (jq_om n w (i + 1)) (jq_op n w (i + 1)) = jq_wuM (jf_mant n w (i + 1)) (jf_pow n w (i + 1))) && decide ((jq_wuM (jf_mant n w (i + 1)) (jf_pow n w (i + 1))).length ≤ 70) && (jq_wuM (jf_mant n w (i + 1)) (jf_pow n w (i + 1))).all (fun c => decide (c < 128))
def jq_dcs (n w : Nat) : Bool := jq_all (jq_dck n w) (2 ^ (n - 1) - 1)
theorem jq_d_3 : jq_all (jq_dcs 3) 3 = true := by decide +kernel
theorem jq_d_4 : jq_all (jq_dcs 4) 3 = true := by decide +kernel
theorem jq_d_5 : jq_all (jq_dcs 5) 3 = true := by decide +kernel
theorem jq_d_6 : jq_all (jq_dcs 6) 3 = true := by decide +kernel
theorem jq_d_7 : jq_all (jq_dcs 7) 3 = true := by decide +kernel
theorem jq_d_8 : jq_all (jq_dcs 8) 3 = true := by decide +kernel
theorem jq_d_9 : jq_all (jq_dcs 9) 3 = true := by decide +kernel
theorem jq_d_10 : jq_all (jq_dcs 10) 3 = true := by decide +kernel
theorem jq_d_11_0 : jq_dcs 11 0 = true := by decide +kernel
theorem jq_d_11_1 : jq_dcs 11 1 = true := by decide +kernel
theorem jq_d_11_2 : jq_dcs 11 2 = true := by decide +kernel
theorem jq_d_12_0 : jq_dcs 12 0 = true := by decide +kernel
theorem jq_d_12_1 : jq_dcs 12 1 = true := by decide +kernel
theorem jq_d_12_2 : jq_dcs 12 2 = true := by decide +kernel
theorem jq_d_all {n w A : Nat} (h1 : 3 ≤ n) (h2 : n ≤ 12) (hw : w ≤ 2) (hA : 0 < A) (hA2 : A < 2 ^ (n - 1)) : jq_wuC (jq_om n w A) (jq_op n w A) = jq_wuM (jf_mant n w A) (jf_pow n w A) ∧ (jq_wuM (jf_mant n w A) (jf_pow n w A)).length ≤ 70 ∧ ∀ c, c ∈ jq_wuM (jf_mant n w A) (jf_pow n w A) → c < 128 := by
  have h : jq_dcs n w = true := by
    match n, h1, h2 with
    | 3, _, _ => exact jq_all_at jq_d_3 w (by omega)
    | 4, _, _ => exact jq_all_at jq_d_4 w (by omega)
    | 5, _, _ => exact jq_all_at jq_d_5 w (by omega)
    | 6, _, _ => exact jq_all_at jq_d_6 w (by omega)
    | 7, _, _ => exact jq_all_at jq_d_7 w (by omega)
    | 8, _, _ => exact jq_all_at jq_d_8 w (by omega)
    | 9, _, _ => exact jq_all_at jq_d_9 w (by omega)
    | 10, _, _ => exact jq_all_at jq_d_10 w (by omega)
    | 11, _, _ => exact jq_w3 hw jq_d_11_0 jq_d_11_1 jq_d_11_2
    | 12, _, _ => exact jq_w3 hw jq_d_12_0 jq_d_12_1 jq_d_12_2
  have h3 := jq_all_at h (A - 1) (by omega)
  unfold jq_dck at h3
  rw [Nat.sub_add_cancel hA] at h3
  simp only [Bool.and_eq_true, decide_eq_true_eq, List.all_eq_true] at h3
  exact ⟨h3.1.1, h3.1.2, h3.2⟩
