set_option maxRecDepth 20000
/-! powers, pairs -/
/-- what one of four comes to, of two rows -/
def jq_two (N W K A B : Nat) : Nat := (jq_rnd N W (jq_op2 K (jq_val N W A) (jq_val N W B))).1
def jq_it (f : Nat → Nat) : Nat → Nat → Nat
  | 0, r => r
  | d + 1, r => jq_it f d (f r)
/-- a sum from i on -/
def jq_su (f : Nat → Nat) : Nat → Nat → Nat
  | _, 0 => 0
  | i, d + 1 => f i + jq_su f (i + 1) d
theorem jq_su_le {f : Nat → Nat} {c : Nat} (h : ∀ k, f k ≤ c) : ∀ d i, jq_su f i d ≤ d * c
  | 0, i => Nat.zero_le _
  | d + 1, i => by
    have := jq_su_le h d (i + 1)
    have := h i
    rw [jq_su, Nat.add_mul, Nat.one_mul]
    omega
section LOOPS
variable {N W : Nat}
theorem jq_two_lt {K A B : Nat} (h1 : 3 ≤ N) : jq_two N W K A B < 2 ^ N := jq_rnd_lt h1
theorem s141 {A K : Nat} (h1 : 3 ≤ N) (h2 : N ≤ 12) (hw : W ≤ 2) (hA : A < 2 ^ N) (hK : K ≤ 50) : ∀ (d i r : Nat) (H : jm_H), i + d = K → r < 2 ^ N → jm_st H → ∃ H1, jf_fr jq_RR H H1 ∧ ∀ Q, jm_w none 7 141 32 [.ref 2, .int (nI N), .int (nI W), .int (nI A), .int (nI K), .int (nI r), .int (nI i)] [] H Q = Q (some (.int (nI (jq_it (fun r => jq_two N W 2 r A) d r)))) H1
  | 0, i, r, H, hd, hr, st => by
    refine ⟨H, jf_fr_refl H, fun Q => ?_⟩
    rw [u141_32, if_pos ((nI_leI (by omega) (by omega)).mpr (by omega)), u141_60]
    rfl
  | d + 1, i, r, H, hd, hr, st => by
    obtain ⟨G, _, fG, qG⟩ := c87 (S := none) st h1 h2 hw hr hA 2 (by decide)
    obtain ⟨H1, f1, q1⟩ := s141 h1 h2 hw hA hK d (i + 1) (jq_two N W 2 r A) G (by omega) (jq_two_lt h1) (jf_fr_st fG st)
    refine ⟨H1, jf_fr_trans fG f1, fun Q => ?_⟩
    rw [u141_32, if_neg (fun g => by have := (nI_leI (by omega) (by omega)).mp g; omega), u141_39 (st_t2 st) (by rw [st_r2_3 st]; decide) (by rw [st_r2_3 st]; exact st_t11 st), st_r2_3 st]
    show jm_c none 87 [.ref 11, .int (nI N), .int (nI W), .int (nI r), .int (nI A), .int (nI 2)] H _ = _
    rw [qG]
    simp only [Option.toList_some, List.append_nil]
    rw [u141_52, nI_succK]
    exact q1 Q
theorem s243 {A K : Nat} (h1 : 3 ≤ N) (h2 : N ≤ 12) (hw : W ≤ 2) (hA : A < 2 ^ N) (hK : K ≤ 50) : ∀ (d i r : Nat) (H : jm_H), i + d = K → r < 2 ^ N → jm_st H → ∃ H1, jq_fm H H1 ∧ ∀ Q, jm_w none 7 243 32 [.ref 180, .int (nI N), .int (nI W), .int (nI A), .int (nI K), .int (nI r), .int (nI i)] [] H Q = Q (some (.int (nI (jq_it (fun r => jq_two N W 2 r A) d r)))) H1
  | 0, i, r, H, hd, hr, st => by
    refine ⟨H, jq_fm_refl H, fun Q => ?_⟩
    rw [u243_32, if_pos ((nI_leI (by omega) (by omega)).mpr (by omega)), u243_57]
    rfl
  | d + 1, i, r, H, hd, hr, st => by
    obtain ⟨G, fG, _, qG⟩ := c209 (S := none) st h1 h2 hw hr hA 2 (by decide)
    obtain ⟨H1, f1, q1⟩ := s243 h1 h2 hw hA hK d (i + 1) (jq_two N W 2 r A) G (by omega) (jq_two_lt h1) (jq_fm_st fG st)
    refine ⟨H1, jq_fm_trans fG f1, fun Q => ?_⟩
    rw [u243_32, if_neg (fun g => by have := (nI_leI (by omega) (by omega)).mp g; omega), u243_39 (st_t180 st)]
    show jm_c none 209 [.ref 180, .int (nI N), .int (nI W), .int (nI r), .int (nI A), .int (nI 2)] H _ = _
    rw [qG]
    simp only [Option.toList_some, List.append_nil]
    rw [u243_49, nI_succK]
    exact q1 Q
theorem i32_50 : (50 : Int32).toInt = 50 := by decide
theorem C141 {A K : Nat} (h1 : 3 ≤ N) (h2 : N ≤ 12) (hw : W ≤ 2) (hA : A < 2 ^ N) (hK : K ≤ 50) : jq_C 141 [.int (nI N), .int (nI W), .int (nI A), .int (nI K)] (.int (nI (jq_it (fun r => jq_two N W 2 r A) K (2 ^ (N - 2))))) := fun H st => by
  have hlt : 2 ^ (N - 2) < 2 ^ N := Nat.pow_lt_pow_right (by decide) (by omega)
  obtain ⟨H1, f1, q1⟩ := s141 h1 h2 hw hA hK K 0 (2 ^ (N - 2)) H (by omega) hlt st
  refine ⟨H1, jf_fr_mono f1 (fun q h => jq_RR_PC h), fun Q => ?_⟩
  have k0 : ¬ nI K < 0 := nI_geK (by omega)
  have k3 : nI K ≤ (50 : Int32) := (nI_leI (b := 50) (by omega) (by decide)).mpr (by omega)
  rw [en141, u141_0, c99, if_pos (jr_row_nI h1 h2 hw hA)]
  simp only [Option.toList_some, List.append_nil]
  rw [u141_6, if_neg i1_0, u141_9, if_neg k0, u141_14, if_pos k3, u141_23, c142 (by omega) (by omega)]
  simp only [Option.toList_some, List.append_nil]
  rw [u141_27]
  exact q1 Q
theorem M243 {A K : Nat} (h1 : 3 ≤ N) (h2 : N ≤ 12) (hw : W ≤ 2) (hA : A < 2 ^ N) (hK : K ≤ 50) : jq_M 243 [.int (nI N), .int (nI W), .int (nI A), .int (nI K)] (.int (nI (jq_it (fun r => jq_two N W 2 r A) K (2 ^ (N - 2))))) := fun H st => by
  have hlt : 2 ^ (N - 2) < 2 ^ N := Nat.pow_lt_pow_right (by decide) (by omega)
  obtain ⟨H1, f1, q1⟩ := s243 h1 h2 hw hA hK K 0 (2 ^ (N - 2)) H (by omega) hlt st
  refine ⟨H1, jq_fn_of f1, fun Q => ?_⟩
  have k4 : (nI K).toInt = K := nI_toInt (by omega)
  have e1 : (1 : Int32) <<< ((nI N - (2 : Int32)) &&& 31) = nI (2 ^ (N - 2)) := by rw [nI_2L, pk_sub (by omega), nI_p2 (by omega)]
  rw [en243, u243_0, c220, if_pos (jr_row_nI h1 h2 hw hA)]
  simp only [Option.toList_some, List.append_nil]
  rw [u243_6, if_neg i1_0, u243_9, c176, i32_0, i32_50, if_pos (by omega)]
  simp only [Option.toList_some, List.append_nil]
  rw [u243_17, if_pos i1_0, u243_22, e1]
  exact q1 Q
/-! pairs -/
/-- whether a pair goes through without loss -/
def jq_ex (N W K A B : Nat) : Nat := if (jq_rnd N W (jq_op2 K (jq_val N W A) (jq_val N W B))).2 = 0 then 1 else 0
theorem jq_ex_le (K A B : Nat) : jq_ex N W K A B ≤ 1 := by
  unfold jq_ex
  split <;> omega
def jq_exs (N W K : Nat) : Nat := jq_su (fun A => jq_su (fun B => jq_ex N W K A B) 0 (2 ^ N)) 0 (2 ^ N)
theorem jq_lean_b {x : Option (Int × Nat × Int)} (hx : jq_ok x) : -2 ≤ (jq_rnd N W x).2 ∧ (jq_rnd N W x).2 ≤ 1 := by
  have hrd : ∀ (m : Nat) (p : Int), (jq_rd N W m p).2 = -1 ∨ (jq_rd N W m p).2 = 0 ∨ (jq_rd N W m p).2 = 1 := by
    intro m p
    unfold jq_rd jq_R
    split
    · exact Or.inr (Or.inr rfl)
    · split
      · exact Or.inl rfl
      · split
        · exact Or.inr (Or.inl rfl)
        · split
          · exact Or.inr (Or.inr rfl)
          · exact Or.inl rfl
  cases x with
  | none => exact (show (-2 : Int) ≤ -2 ∧ (-2 : Int) ≤ 1 by decide)
  | some y =>
    unfold jq_rnd
    dsimp only
    have h := hrd (jq_sq y.2.1 y.2.2).1 (jq_sq y.2.1 y.2.2).2
    split
    · exact ⟨by decide, by decide⟩
    · split
      · omega
      · dsimp only; omega
theorem s144i {K A : Nat} (h1 : 3 ≤ N) (h2 : N ≤ 6) (hw : W ≤ 2) (hA : A < 2 ^ N) (hK : K < 4) : ∀ (d i c : Nat) (H : jm_H), i + d = 2 ^ N → jm_st H → ∃ H1, jf_fr jq_RR H H1 ∧ ∀ Q, jm_w none 7 144 17 [.ref 2, .int (nI N), .int (nI W), .int (nI K), .int (nI c), .int (nI A), .int (nI i)] [] H Q = jm_w none 7 144 66 [.ref 2, .int (nI N), .int (nI W), .int (nI K), .int (nI (c + jq_su (fun B => jq_ex N W K A B) i d)), .int (nI A), .int (nI (2 ^ N))] [] H1 Q
  | 0, i, c, H, hd, st => by
    have hN : 2 ^ N ≤ 64 := p2_le (m := 6) h2
    refine ⟨H, jf_fr_refl H, fun Q => ?_⟩
    have : i = 2 ^ N := by omega
    subst this
    rw [u144_17, nI_p2 (by omega), if_pos ((nI_leI (by omega) (by omega)).mpr (Nat.le_refl _))]
    rfl
  | d + 1, i, c, H, hd, st => by
    have hN : 2 ^ N ≤ 64 := p2_le (m := 6) h2
    obtain ⟨G, lG, fG, qG⟩ := c87 (S := none) (A := A) (B := i) st h1 (show N ≤ 12 by omega) hw hA (show i < 2 ^ N by omega) K hK
    have stG := jf_fr_st fG st
    obtain ⟨H1, f1, q1⟩ := s144i h1 h2 hw hA hK d (i + 1) (c + jq_ex N W K A i) G (by omega) stG
    refine ⟨H1, jf_fr_trans fG f1, fun Q => ?_⟩
    have hlb := jq_lean_b (N := N) (W := W) (jq_op2_ok (jq_val_b h1 (show N ≤ 12 by omega) hw hA) (jq_val_b h1 (show N ≤ 12 by omega) hw (show i < 2 ^ N by omega)) hK)
    have zl : (jI (jq_rnd N W (jq_op2 K (jq_val N W A) (jq_val N W i))).2 = (0 : Int32)) = ((jq_rnd N W (jq_op2 K (jq_val N W A) (jq_val N W i))).2 = 0) := propext (jI_eq (b := 0) ⟨by omega, by omega⟩ (by decide))
    rw [u144_17, nI_p2 (by omega), if_neg (fun g => by have := (nI_leI (by omega) (by omega)).mp g; omega), u144_25 (st_t2 st) (by rw [st_r2_3 st]; decide) (by rw [st_r2_3 st]; exact st_t11 st), st_r2_3 st, qG]
    simp only [Option.toList_some, List.append_nil]
    rw [u144_39 (st_t2 stG) (by rw [st_r2_3 stG]; decide) (by rw [st_r2_3 stG]; exact st_t11 stG), st_r2_3 stG, lG, ite_eqP (congrArg Not zl)]
    have hsu : c + jq_su (fun B => jq_ex N W K A B) i (d + 1) = c + jq_ex N W K A i + jq_su (fun B => jq_ex N W K A B) (i + 1) d := by
      rw [jq_su, Nat.add_assoc]
    rw [hsu]
    by_cases h : (jq_rnd N W (jq_op2 K (jq_val N W A) (jq_val N W i))).2 = 0
    · have ex : jq_ex N W K A i = 1 := if_pos h
      rw [if_neg (fun g => g h), u144_52, u144_57, nI_succK, nI_succK]
      rw [ex] at q1 ⊢
      exact q1 Q
    · have ex : jq_ex N W K A i = 0 := if_neg h
      rw [if_pos h, u144_56, u144_57, show nI c + (0 : Int32) = nI (c + 0) from nI_addN c 0, nI_succK]
      rw [ex] at q1 ⊢
      exact q1 Q
theorem s144 {K : Nat} (h1 : 3 ≤ N) (h2 : N ≤ 6) (hw : W ≤ 2) (hK : K < 4) : ∀ (d i c : Nat) (w6 : Value) (H : jm_H), (w6 = .null ∨ w6 = .int (nI (2 ^ N))) → i + d = 2 ^ N → jm_st H → ∃ H1, jf_fr jq_RR H H1 ∧ ∀ Q, jm_w none 7 144 6 [.ref 2, .int (nI N), .int (nI W), .int (nI K), .int (nI c), .int (nI i), w6] [] H Q = Q (some (.int (nI (c + jq_su (fun A => jq_su (fun B => jq_ex N W K A B) 0 (2 ^ N)) i d)))) H1
  | 0, i, c, w6, H, h6, hd, st => by
    have hN : 2 ^ N ≤ 64 := p2_le (m := 6) h2
    refine ⟨H, jf_fr_refl H, fun Q => ?_⟩
    have : i = 2 ^ N := by omega
    subst this
    rw [u144_6, nI_p2 (by omega), if_pos ((nI_leI (by omega) (by omega)).mpr (Nat.le_refl _)), u144_72]
    rfl
  | d + 1, i, c, w6, H, h6, hd, st => by
    have hN : 2 ^ N ≤ 64 := p2_le (m := 6) h2
    obtain ⟨G, fG, qG⟩ := s144i (W := W) (A := i) h1 h2 hw (show i < 2 ^ N by omega) hK (2 ^ N) 0 c H (by omega) st
    obtain ⟨H1, f1, q1⟩ := s144 h1 h2 hw hK d (i + 1) (c + jq_su (fun B => jq_ex N W K i B) 0 (2 ^ N)) (.int (nI (2 ^ N))) G (Or.inr rfl) (by omega) (jf_fr_st fG st)
    refine ⟨H1, jf_fr_trans fG f1, fun Q => ?_⟩
    rw [u144_6, nI_p2 (by omega), if_neg (fun g => by have := (nI_leI (by omega) (by omega)).mp g; omega), u144_14]
    show jm_w none 7 144 17 [.ref 2, .int (nI N), .int (nI W), .int (nI K), .int (nI c), .int (nI i), .int (nI 0)] [] H Q = _
    rw [qG, u144_66, nI_succK, q1, jq_su, Nat.add_assoc]
theorem c144 {K : Nat} {H : jm_H} (st : jm_st H) (h1 : 3 ≤ N) (h2 : N ≤ 6) (hw : W ≤ 2) (hK : K < 4) : ∃ H1, jf_fr jq_RR H H1 ∧ ∀ Q, jm_c none 144 [.ref 2, .int (nI N), .int (nI W), .int (nI K)] H Q = Q (some (.int (nI (jq_exs N W K)))) H1 := by
  obtain ⟨H1, f1, q1⟩ := s144 (W := W) h1 h2 hw hK (2 ^ N) 0 0 .null H (Or.inl rfl) (by omega) st
  refine ⟨H1, f1, fun Q => ?_⟩
  rw [en144, u144_0]
  show jm_w none 7 144 6 [.ref 2, .int (nI N), .int (nI W), .int (nI K), .int (nI 0), .int (nI 0), .null] [] H Q = _
  rw [q1, Nat.zero_add]
  rfl
theorem s248i {K A : Nat} (h1 : 3 ≤ N) (h2 : N ≤ 6) (hw : W ≤ 2) (hA : A < 2 ^ N) (hK : K < 3) : ∀ (d i c : Nat) (w7 : Value) (H : jm_H), i + d = 2 ^ N → jm_st H → ∃ H1 w', jq_fm H H1 ∧ ∀ Q, jm_w none 7 248 45 [.ref 180, .int (nI N), .int (nI W), .int (nI K), .int (nI c), .int (nI A), .int (nI i), w7] [] H Q = jm_w none 7 248 122 [.ref 180, .int (nI N), .int (nI W), .int (nI K), .int (nI (c + jq_su (fun B => jq_ex N W (if K = 0 then 0 else K + 1) A B) i d)), .int (nI A), .int (nI (2 ^ N)), w'] [] H1 Q
  | 0, i, c, w7, H, hd, st => by
    have hN : 2 ^ N ≤ 64 := p2_le (m := 6) h2
    refine ⟨H, w7, jq_fm_refl H, fun Q => ?_⟩
    have : i = 2 ^ N := by omega
    subst this
    rw [u248_45, nI_p2 (by omega), if_pos ((nI_leI (by omega) (by omega)).mpr (Nat.le_refl _))]
    rfl
  | d + 1, i, c, w7, H, hd, st => by
    have hN : 2 ^ N ≤ 64 := p2_le (m := 6) h2
    have hi : i < 2 ^ N := by omega
    have hK4 : (if K = 0 then 0 else K + 1) < 4 := by split <;> omega
    have bA := jq_val_b h1 (show N ≤ 12 by omega) hw hA
    have bI := jq_val_b h1 (show N ≤ 12 by omega) hw hi
    have hsu : ∀ c, c + jq_su (fun B => jq_ex N W (if K = 0 then 0 else K + 1) A B) i (d + 1) = c + jq_ex N W (if K = 0 then 0 else K + 1) A i + jq_su (fun B => jq_ex N W (if K = 0 then 0 else K + 1) A B) (i + 1) d := fun c => by
      rw [jq_su, Nat.add_assoc]
    -- a pair that isn't told
    have skip : ∀ (w : Value) (G : jm_H), jq_fm H G → jq_ex N W (if K = 0 then 0 else K + 1) A i = 0 → ∃ H1 w', jq_fm H H1 ∧ ∀ Q, jm_w none 7 248 116 [.ref 180, .int (nI N), .int (nI W), .int (nI K), .int (nI c), .int (nI A), .int (nI i), w] [] G Q = jm_w none 7 248 122 [.ref 180, .int (nI N), .int (nI W), .int (nI K), .int (nI (c + jq_su (fun B => jq_ex N W (if K = 0 then 0 else K + 1) A B) i (d + 1))), .int (nI A), .int (nI (2 ^ N)), w'] [] H1 Q := by
      intro w G fG ex
      obtain ⟨H1, w', f1, q1⟩ := s248i h1 h2 hw hA hK d (i + 1) c w G (by omega) (jq_fm_st fG st)
      refine ⟨H1, w', jq_fm_trans fG f1, fun Q => ?_⟩
      rw [u248_116, nI_succK, q1, hsu, ex, show c + 0 = c from rfl]
    have hnone : jq_val N W A = none ∨ jq_val N W i = none → jq_ex N W (if K = 0 then 0 else K + 1) A i = 0 := by
      intro h
      have e : jq_op2 (if K = 0 then 0 else K + 1) (jq_val N W A) (jq_val N W i) = none := by
        generalize (if K = 0 then 0 else K + 1) = k at hK4 ⊢
        rcases h with h | h
        · rw [h]
          match k, hK4 with
          | 0, _ => rfl
          | 1, _ => rfl
          | 2, _ => rfl
          | 3, _ => rfl
        · rw [h]
          match k, hK4 with
          | 0, _ => cases jq_val N W A <;> rfl
          | 1, _ => cases jq_val N W A <;> rfl
          | 2, _ => cases jq_val N W A <;> rfl
          | 3, _ => cases jq_val N W A <;> rfl
      unfold jq_ex
      rw [e]
      rfl
    have start : ∀ Q, jm_w none 7 248 45 [.ref 180, .int (nI N), .int (nI W), .int (nI K), .int (nI c), .int (nI A), .int (nI i), w7] [] H Q = if A = 2 ^ (N - 1) then jm_w none 7 248 116 [.ref 180, .int (nI N), .int (nI W), .int (nI K), .int (nI c), .int (nI A), .int (nI i), w7] [] H Q else if i = 2 ^ (N - 1) then jm_w none 7 248 116 [.ref 180, .int (nI N), .int (nI W), .int (nI K), .int (nI c), .int (nI A), .int (nI i), w7] [] H Q else jm_w none 7 248 74 [.ref 180, .int (nI N), .int (nI W), .int (nI K), .int (nI c), .int (nI A), .int (nI i), w7] [] H Q := by
      intro Q
      rw [u248_45, nI_p2 (by omega), if_neg (fun g => by have := (nI_leI (by omega) (by omega)).mp g; omega), u248_53, c204 (by omega) (by omega) (by omega)]
      simp only [Option.toList_some, List.append_nil]
      rw [u248_59]
      by_cases ha : A = 2 ^ (N - 1)
      · rw [if_pos ha, if_pos ha, if_pos i1_0]
      · rw [if_neg ha, if_neg ha, if_neg (by decide), u248_62, c204 (by omega) (by omega) (by omega)]
        simp only [Option.toList_some, List.append_nil]
        rw [u248_68]
        by_cases hb : i = 2 ^ (N - 1)
        · rw [if_pos hb, if_pos hb, if_neg i1_0, u248_71]
        · rw [if_neg hb, if_neg hb, if_pos rfl]
    by_cases ha : A = 2 ^ (N - 1)
    · obtain ⟨H1, w', f1, q1⟩ := skip w7 H (jq_fm_refl H) (hnone (Or.inl (jq_val_nil ha)))
      exact ⟨H1, w', f1, fun Q => by rw [start, if_pos ha, q1]⟩
    · by_cases hb : i = 2 ^ (N - 1)
      · obtain ⟨H1, w', f1, q1⟩ := skip w7 H (jq_fm_refl H) (hnone (Or.inr (jq_val_nil hb)))
        exact ⟨H1, w', f1, fun Q => by rw [start, if_neg ha, if_pos hb, q1]⟩
      · obtain ⟨G, fG, lG, qG⟩ := c209 (S := none) (A := A) (B := i) st h1 (show N ≤ 12 by omega) hw hA hi (if K = 0 then 0 else K + 1) hK4
        have stG := jq_fm_st fG st
        have hok := jq_op2_ok bA bI hK4
        have hnil := jq_rnd_nil (W := W) h1 hok
        have hlt := jq_rnd_lt (W := W) (x := jq_op2 (if K = 0 then 0 else K + 1) (jq_val N W A) (jq_val N W i)) h1
        have hlb := jq_lean_b (N := N) (W := W) hok
        have k0 : (nI K = (0 : Int32)) = (K = 0) := propext (nI_eqI (b := 0) (by omega) (by decide))
        have upto : ∀ Q, jm_w none 7 248 45 [.ref 180, .int (nI N), .int (nI W), .int (nI K), .int (nI c), .int (nI A), .int (nI i), w7] [] H Q = jm_w none 7 248 103 [.ref 180, .int (nI N), .int (nI W), .int (nI K), .int (nI c), .int (nI A), .int (nI i), .int (nI (jq_rnd N W (jq_op2 (if K = 0 then 0 else K + 1) (jq_val N W A) (jq_val N W i))).1)] [.int (if (jq_rnd N W (jq_op2 (if K = 0 then 0 else K + 1) (jq_val N W A) (jq_val N W i))).1 = 2 ^ (N - 1) then 1 else 0)] G Q := by
          intro Q
          have h92 : jm_w none 7 248 92 [.ref 180, .int (nI N), .int (nI W), .int (nI K), .int (nI c), .int (nI A), .int (nI i), w7] [.int (nI (if K = 0 then 0 else K + 1)), .int (nI i), .int (nI A), .int (nI W), .int (nI N), .ref 180] H Q = jm_w none 7 248 103 [.ref 180, .int (nI N), .int (nI W), .int (nI K), .int (nI c), .int (nI A), .int (nI i), .int (nI (jq_rnd N W (jq_op2 (if K = 0 then 0 else K + 1) (jq_val N W A) (jq_val N W i))).1)] [.int (if (jq_rnd N W (jq_op2 (if K = 0 then 0 else K + 1) (jq_val N W A) (jq_val N W i))).1 = 2 ^ (N - 1) then 1 else 0)] G Q := by
            rw [u248_92 (st_t180 st), qG]
            simp only [Option.toList_some, List.append_nil]
            rw [u248_95, c204 (by omega) (by omega) (by omega)]
            simp only [Option.toList_some, List.append_nil]
          rw [start, if_neg ha, if_neg hb, u248_74, ite_eqP (congrArg Not k0)]
          by_cases hk : K = 0
          · rw [if_neg (fun g => g hk), u248_85]
            rw [if_pos hk] at h92
            rw [if_pos hk]
            exact h92
          · rw [if_pos hk, u248_89, nI_succK]
            rw [if_neg hk] at h92
            rw [if_neg hk]
            exact h92
        by_cases hv : jq_op2 (if K = 0 then 0 else K + 1) (jq_val N W A) (jq_val N W i) = none
        · have ex : jq_ex N W (if K = 0 then 0 else K + 1) A i = 0 := by
            unfold jq_ex
            rw [hv]
            rfl
          obtain ⟨H1, w', f1, q1⟩ := skip (.int (nI (jq_rnd N W (jq_op2 (if K = 0 then 0 else K + 1) (jq_val N W A) (jq_val N W i))).1)) G fG ex
          refine ⟨H1, w', f1, fun Q => ?_⟩
          rw [upto, u248_103, if_pos (hnil.mpr hv), if_pos i1_0, q1]
        · have zl : (jI (jq_rnd N W (jq_op2 (if K = 0 then 0 else K + 1) (jq_val N W A) (jq_val N W i))).2 = (0 : Int32)) = ((jq_rnd N W (jq_op2 (if K = 0 then 0 else K + 1) (jq_val N W A) (jq_val N W i))).2 = 0) := propext (jI_eq (b := 0) ⟨by omega, by omega⟩ (by decide))
          by_cases hl : (jq_rnd N W (jq_op2 (if K = 0 then 0 else K + 1) (jq_val N W A) (jq_val N W i))).2 = 0
          · have ex : jq_ex N W (if K = 0 then 0 else K + 1) A i = 1 := if_pos hl
            obtain ⟨H1, w', f1, q1⟩ := s248i h1 h2 hw hA hK d (i + 1) (c + 1) (.int (nI (jq_rnd N W (jq_op2 (if K = 0 then 0 else K + 1) (jq_val N W A) (jq_val N W i))).1)) G (by omega) stG
            refine ⟨H1, w', jq_fm_trans fG f1, fun Q => ?_⟩
            rw [upto, u248_103, if_neg (fun g => hv (hnil.mp g)), if_neg (by decide), u248_106 (st_t180 stG), lG hv, ite_eqP (congrArg Not zl), if_neg (fun g => g hl), u248_113, nI_succK, u248_116, nI_succK, q1, hsu, ex]
          · have ex : jq_ex N W (if K = 0 then 0 else K + 1) A i = 0 := if_neg hl
            obtain ⟨H1, w', f1, q1⟩ := skip (.int (nI (jq_rnd N W (jq_op2 (if K = 0 then 0 else K + 1) (jq_val N W A) (jq_val N W i))).1)) G fG ex
            refine ⟨H1, w', f1, fun Q => ?_⟩
            rw [upto, u248_103, if_neg (fun g => hv (hnil.mp g)), if_neg (by decide), u248_106 (st_t180 stG), lG hv, ite_eqP (congrArg Not zl), if_pos hl, q1]
theorem s248 {K : Nat} (h1 : 3 ≤ N) (h2 : N ≤ 6) (hw : W ≤ 2) (hK : K < 3) : ∀ (d i c : Nat) (w6 w7 : Value) (H : jm_H), (w6 = .null ∨ w6 = .int (nI (2 ^ N))) → i + d = 2 ^ N → jm_st H → ∃ H1, jq_fm H H1 ∧ ∀ Q, jm_w none 7 248 34 [.ref 180, .int (nI N), .int (nI W), .int (nI K), .int (nI c), .int (nI i), w6, w7] [] H Q = Q (some (.int (nI (c + jq_su (fun A => jq_su (fun B => jq_ex N W (if K = 0 then 0 else K + 1) A B) 0 (2 ^ N)) i d)))) H1
  | 0, i, c, w6, w7, H, h6, hd, st => by
    have hN : 2 ^ N ≤ 64 := p2_le (m := 6) h2
    refine ⟨H, jq_fm_refl H, fun Q => ?_⟩
    have : i = 2 ^ N := by omega
    subst this
    rw [u248_34, nI_p2 (by omega), if_pos ((nI_leI (by omega) (by omega)).mpr (Nat.le_refl _)), u248_128]
    rfl
  | d + 1, i, c, w6, w7, H, h6, hd, st => by
    have hN : 2 ^ N ≤ 64 := p2_le (m := 6) h2
    obtain ⟨G, w', fG, qG⟩ := s248i (W := W) (A := i) h1 h2 hw (show i < 2 ^ N by omega) hK (2 ^ N) 0 c w7 H (by omega) st
    obtain ⟨H1, f1, q1⟩ := s248 h1 h2 hw hK d (i + 1) (c + jq_su (fun B => jq_ex N W (if K = 0 then 0 else K + 1) i B) 0 (2 ^ N)) (.int (nI (2 ^ N))) w' G (Or.inr rfl) (by omega) (jq_fm_st fG st)
    refine ⟨H1, jq_fm_trans fG f1, fun Q => ?_⟩
    rw [u248_34, nI_p2 (by omega), if_neg (fun g => by have := (nI_leI (by omega) (by omega)).mp g; omega), u248_42]
    show jm_w none 7 248 45 [.ref 180, .int (nI N), .int (nI W), .int (nI K), .int (nI c), .int (nI i), .int (nI 0), w7] [] H Q = _
    rw [qG, u248_122, nI_succK, q1, jq_su, Nat.add_assoc]
end LOOPS
