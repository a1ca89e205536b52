set_option maxRecDepth 20000
/-! steps to a root -/
def jq_hf (N W s : Nat) : Nat := (jq_rnd N W (jq_sp 1 (jq_val N W s))).1
/-- one step -/
def jq_g (N W A x : Nat) : Nat := jq_hf N W (jq_two N W 0 x (jq_two N W 3 A x))
/-- marks: where a row came -/
def jq_mk (M : Nat → Int) (v : Nat) (j : Int) : Nat → Int := fun k => if k = v then j else M k
def jq_lp (g : Nat → Nat) (nil : Nat) : Nat → (Nat → Int) → Nat → Nat → Nat × Nat × Int
  | 0, _, j, v => (j, v, 0)
  | f + 1, M, j, v => if g v = nil then (j + 1, g v, 0) else if 0 ≤ jq_mk M v j (g v) then (j + 1, g v, (j : Int) + 1 - jq_mk M v j (g v)) else jq_lp g nil f (jq_mk M v j) (j + 1) (g v)
/-- how many are not marked -/
def jq_un (M : Nat → Int) : Nat → Nat
  | 0 => 0
  | n + 1 => jq_un M n + (if M n < 0 then 1 else 0)
theorem jq_un_mk {M : Nat → Int} {v : Nat} {j : Int} (hj : 0 ≤ j) (hv : M v < 0) : ∀ n, jq_un (jq_mk M v j) n + (if v < n then 1 else 0) = jq_un M n
  | 0 => rfl
  | n + 1 => by
    have ih := jq_un_mk hj hv n
    rw [jq_un, jq_un]
    by_cases h : n = v
    · have e : jq_mk M v j n = j := if_pos h
      have e2 : M n < 0 := by rw [h]; exact hv
      rw [e, if_pos e2, if_neg (show ¬ j < 0 by omega), if_pos (show v < n + 1 by omega)]
      rw [if_neg (show ¬ v < n by omega)] at ih
      omega
    · have e : jq_mk M v j n = M n := if_neg h
      rw [e]
      by_cases h2 : v < n
      · rw [if_pos h2] at ih
        rw [if_pos (show v < n + 1 by omega)]
        omega
      · rw [if_neg h2] at ih
        rw [if_neg (show ¬ v < n + 1 by omega)]
        omega
theorem jq_un_all (n : Nat) : jq_un (fun _ => -1) n = n := by
  induction n with
  | zero => rfl
  | succ n ih => rw [jq_un, ih, if_pos (by decide)]
/-- what is asked of the three -/
def jq_an (K : Nat) (t : Nat × Nat × Int) : Int := if K = 0 then t.1 else if K = 1 then t.2.1 else t.2.2
section STEPS
variable {N W : Nat}
theorem jq_hf_lt {s : Nat} (h1 : 3 ≤ N) : jq_hf N W s < 2 ^ N := jq_rnd_lt h1
theorem jq_sp_ok {s : Nat} (h1 : 3 ≤ N) (h2 : N ≤ 12) (hw : W ≤ 2) (hs : s < 2 ^ N) : jq_ok (jq_sp 1 (jq_val N W s)) := by
  have hb := jq_val_b h1 h2 hw hs
  cases hv : jq_val N W s with
  | none => trivial
  | some a =>
    rw [hv] at hb
    obtain ⟨b1, b2, b3, b4, b5⟩ := hb
    exact ⟨b1, b2, by show a.2.1 < _; omega, by show -200 ≤ a.2.2 - 1; omega, by show a.2.2 - 1 ≤ 200; omega, fun g => by
      have := b5 g
      show -160 ≤ (Nat.log2 a.2.1 : Int) + (a.2.2 - 1) ∧ (Nat.log2 a.2.1 : Int) + (a.2.2 - 1) ≤ 160
      omega⟩
theorem c140 {s : Nat} {H : jm_H} (st : jm_st H) (h1 : 3 ≤ N) (h2 : N ≤ 12) (hw : W ≤ 2) (hs : s < 2 ^ N) : ∃ H1, jf_fr jq_RR H H1 ∧ ∀ Q, jm_c none 140 [.ref 11, .int (nI N), .int (nI W), .int (nI s)] H Q = Q (some (.int (nI (jq_hf N W s)))) H1 := by
  obtain ⟨H1, i1, _, f1, q1⟩ := c68 (S := none) (H := H) (st_t16 st) (st_r16_0 st) (by decide) (by decide) (st_t17 st) h1 h2 hw hs
  have st1 := jf_fr_st f1 st
  have i2 : jq_is (jm_pI H1 16 4 (jm_I H1 16 4 - 1)) 16 (jq_sp 1 (jq_val N W s)) := by
    revert i1
    cases jq_val N W s with
    | none =>
      intro i1
      have h : jm_I H1 16 1 = 1 := i1
      show jm_I (jm_pI H1 16 4 _) 16 1 = 1
      rw [jm_I_pI, if_neg (by omega)]
      exact h
    | some b =>
      intro i1
      obtain ⟨b1, b2, b3, b4⟩ := i1
      unfold jq_sp jq_is
      simp only [jm_I_pI, jm_L_pI, true_and, Nat.reduceEqDiff, if_true, if_false, and_false]
      exact ⟨b1, b2, b3, by rw [b4, jI_1, jI_sub]⟩
  have f2 : jf_fr jq_RR H (jm_pI H1 16 4 (jm_I H1 16 4 - 1)) := jf_fr_trans (jf_fr_mono f1 (fun x hx => by rcases hx with rfl | rfl <;> decide)) (jf_fr_pI (by decide))
  obtain ⟨H3, _, f3, q3⟩ := f49 (S := none) (N := N) (W := W) st i2 (jq_sp_ok h1 h2 hw hs) f2 h1 h2 hw
  refine ⟨H3, f3, fun Q => ?_⟩
  rw [en140, u140_0 (st_t11 st) (by rw [st_r11_2 st]; decide) (by rw [st_r11_2 st]; exact st_t16 st), st_r11_2 st, q1]
  simp only [Option.toList_none, List.nil_append]
  rw [u140_10 (st_t11 st1) (by rw [st_r11_2 st1]; decide) (by rw [st_r11_2 st1]; exact st_t16 st1), st_r11_2 st1, q3]
  simp only [Option.toList_some, List.append_nil]
  rw [u140_33]
  rfl
theorem c139 {A x : Nat} {H : jm_H} (st : jm_st H) (h1 : 3 ≤ N) (h2 : N ≤ 12) (hw : W ≤ 2) (hA : A < 2 ^ N) (hx : x < 2 ^ N) : ∃ H1, jf_fr jq_RR H H1 ∧ ∀ Q, jm_c none 139 [.ref 2, .int (nI N), .int (nI W), .int (nI A), .int (nI x)] H Q = Q (some (.int (nI (jq_g N W A x)))) H1 := by
  obtain ⟨H1, _, f1, q1⟩ := c87 (S := none) st h1 h2 hw hA hx 3 (by decide)
  have st1 := jf_fr_st f1 st
  obtain ⟨H2, _, f2, q2⟩ := c87 (S := none) st1 h1 h2 hw hx (jq_two_lt (K := 3) (A := A) (B := x) h1) 0 (by decide)
  have st2 := jf_fr_st f2 st1
  obtain ⟨H3, f3, q3⟩ := c140 st2 h1 h2 hw (jq_two_lt (K := 0) (A := x) (B := jq_two N W 3 A x) h1)
  refine ⟨H3, jf_fr_trans f1 (jf_fr_trans f2 f3), fun Q => ?_⟩
  rw [en139, u139_0 (st_t2 st) (by rw [st_r2_3 st]; decide) (by rw [st_r2_3 st]; exact st_t11 st), st_r2_3 st]
  show jm_c none 87 [.ref 11, .int (nI N), .int (nI W), .int (nI A), .int (nI x), .int (nI 3)] H _ = _
  rw [q1]
  simp only [Option.toList_some, List.append_nil]
  rw [u139_13 (st_t2 st1) (by rw [st_r2_3 st1]; decide) (by rw [st_r2_3 st1]; exact st_t11 st1), st_r2_3 st1]
  show jm_c none 87 [.ref 11, .int (nI N), .int (nI W), .int (nI x), .int (nI (jq_two N W 3 A x)), .int (nI 0)] H1 _ = _
  rw [q2]
  simp only [Option.toList_some, List.cons_append, List.nil_append]
  rw [u139_35 (st_t11 st2)]
  show jm_c none 140 [.ref 11, .int (nI N), .int (nI W), .int (nI (jq_two N W 0 x (jq_two N W 3 A x)))] H2 _ = _
  rw [q3]
  simp only [Option.toList_some, List.append_nil]
  rw [u139_38]
  rfl
theorem c242 {A x : Nat} {H : jm_H} (st : jm_st H) (h1 : 3 ≤ N) (h2 : N ≤ 12) (hw : W ≤ 2) (hA : A < 2 ^ N) (hx : x < 2 ^ N) : ∃ H1, jq_fm H H1 ∧ ∀ Q, jm_c none 242 [.ref 180, .int (nI N), .int (nI W), .int (nI A), .int (nI x)] H Q = Q (some (.int (nI (jq_g N W A x)))) H1 := by
  have hp := p2_12 h2
  obtain ⟨H1, f1, _, q1⟩ := c209 (S := none) st h1 h2 hw hA hx 3 (by decide)
  have st1 := jq_fm_st f1 st
  obtain ⟨H2, f2, _, q2⟩ := c209 (S := none) st1 h1 h2 hw hx (jq_two_lt (K := 3) (A := A) (B := x) h1) 0 (by decide)
  have st2 := jq_fm_st f2 st1
  have hs := jq_two_lt (N := N) (W := W) (K := 0) (A := x) (B := jq_two N W 3 A x) h1
  have start : ∀ Q, jm_c none 242 [.ref 180, .int (nI N), .int (nI W), .int (nI A), .int (nI x)] H Q = jm_w none 7 242 27 [.ref 180, .int (nI N), .int (nI W), .int (nI A), .int (nI x), .int (nI (jq_two N W 0 x (jq_two N W 3 A x)))] [.int (if jq_two N W 0 x (jq_two N W 3 A x) = 2 ^ (N - 1) then 1 else 0)] H2 Q := by
    intro Q
    rw [en242, u242_0 (st_t180 st)]
    show jm_c none 209 [.ref 180, .int (nI N), .int (nI W), .int (nI A), .int (nI x), .int (nI 3)] H _ = _
    rw [q1]
    simp only [Option.toList_some, List.cons_append, List.nil_append]
    rw [u242_15 (st_t180 st1)]
    show jm_c none 209 [.ref 180, .int (nI N), .int (nI W), .int (nI x), .int (nI (jq_two N W 3 A x)), .int (nI 0)] H1 _ = _
    rw [q2]
    simp only [Option.toList_some, List.append_nil]
    rw [u242_19]
    show jm_c none 204 [.int (nI N), .int (nI (jq_two N W 0 x (jq_two N W 3 A x)))] H2 _ = _
    rw [c204 (by omega) (by omega) (by omega)]
    simp only [Option.toList_some, List.append_nil]
    rfl
  unfold jq_g
  generalize jq_two N W 0 x (jq_two N W 3 A x) = s at *
  have z0 : (nI s = (0 : Int32)) = (s = 0) := propext (nI_eqI (b := 0) (by omega) (by decide))
  by_cases hn : s = 2 ^ (N - 1)
  · refine ⟨H2, jq_fm_trans f1 f2, fun Q => ?_⟩
    have e : jq_hf N W s = s := by
      unfold jq_hf
      rw [jq_val_nil hn]
      exact hn.symm
    rw [start, if_pos hn, u242_27, if_pos i1_0, u242_35, u242_51, e]
  · by_cases h0 : s = 0
    · refine ⟨H2, jq_fm_trans f1 f2, fun Q => ?_⟩
      have e : jq_hf N W s = s := by
        unfold jq_hf
        have ev : jq_val N W s = some (0, 0, 0) := if_pos h0
        rw [ev, h0]
        rfl
      rw [start, if_neg hn, u242_27, if_neg (by decide), u242_30, ite_eqP (congrArg Not z0), if_neg (fun g => g h0), u242_35, u242_51, e]
    · obtain ⟨H3, f3, q3⟩ := c227 (S := none) (t := 1) st2 h1 h2 hw hs h0 hn h1 h2 hw (by decide)
      refine ⟨H3, jq_fm_trans f1 (jq_fm_trans f2 f3), fun Q => ?_⟩
      rw [start, if_neg hn, u242_27, if_neg (by decide), u242_30, ite_eqP (congrArg Not z0), if_pos h0, u242_40 (st_t180 st2)]
      show jm_c none 227 [.ref 180, .int (nI N), .int (nI W), .int (nI s), .int (nI N), .int (nI W), .int (nI 1)] H2 _ = _
      rw [q3]
      simp only [Option.toList_some, List.append_nil]
      rw [u242_51]
      rfl
theorem jq_g_lt {A x : Nat} (h1 : 3 ≤ N) : jq_g N W A x < 2 ^ N := jq_hf_lt h1
theorem jq_mk_v (M : Nat → Int) (v : Nat) (j : Int) : jq_mk M v j v = j := if_pos rfl
/-- the class, behind its loop -/
theorem e138 {n w a x : Int32} {K : Nat} (hK : K < 3) {c v x8 x9 : Int32} {H : jm_H} {Q : Option Value → jm_H → Prop} : jm_w none 8 138 141 [.ref 2, .int n, .int w, .int a, .int x, .int (nI K), .int v, .int c, .int x8, .int x9] [] H Q = Q (some (.int (if K = 0 then c else if K = 1 then v else if x9 = 0 then c - x8 else 0))) H := by
  have z0 : (nI K = (0 : Int32)) = (K = 0) := propext (nI_eqI (b := 0) (by omega) (by decide))
  have z1 : (nI K = (1 : Int32)) = (K = 1) := propext (nI_eqI (b := 1) (by omega) (by decide))
  rw [u138_141, ite_eqP (congrArg Not z0)]
  by_cases h0 : K = 0
  · rw [if_neg (fun g => g h0), if_pos h0, u138_146]
  · rw [if_pos h0, if_neg h0, u138_149, ite_eqP (congrArg Not z1)]
    by_cases h1 : K = 1
    · rw [if_neg (fun g => g h1), if_pos h1, u138_155]
    · rw [if_pos h1, if_neg h1, u138_158]
      by_cases h9 : x9 = 0
      · rw [if_pos h9, if_pos h9, u138_167, u138_172]
      · rw [if_neg h9, if_neg h9, u138_163, u138_172]
theorem s138 {A X K : Nat} (h1 : 3 ≤ N) (h2 : N ≤ 12) (hw : W ≤ 2) (hA : A < 2 ^ N) (hK : K < 3) : ∀ (f : Nat) (M : Nat → Int) (j v : Nat) (H : jm_H), jm_st H → (∀ k, k < 4096 → jm_I H 175 k = jI (M k)) → (∀ k, -1 ≤ M k ∧ M k ≤ 4096) → v < 2 ^ N → M v = -1 → jq_un M (2 ^ N) = f → j + f ≤ 4096 → ∃ H1, jf_fr jq_PC H H1 ∧ ∀ Q, jm_w none 8 138 45 [.ref 2, .int (nI N), .int (nI W), .int (nI A), .int (nI X), .int (nI K), .int (nI v), .int (nI j), .int (-1), .int 0] [] H Q = Q (some (.int (jI (jq_an K (jq_lp (jq_g N W A) (2 ^ (N - 1)) f M j v))))) H1
  | 0, M, j, v, H, st, hI, hM, hv, hMv, hu, hj => by
    have := jq_un_mk (M := M) (v := v) (j := 0) (by decide) (by omega) (2 ^ N)
    rw [if_pos hv, hu] at this
    omega
  | f + 1, M, j, v, H, st, hI, hM, hv, hMv, hu, hj => by
    have hp := p2_12 h2
    have hg := jq_g_lt (N := N) (W := W) (A := A) (x := v) h1
    have r := st_r2_11 st
    have fw : jf_fr jq_PC H (jm_pI H 175 v (nI j)) := jf_fr_pI (Or.inr (Or.inr rfl))
    have stw := jf_fr_st fw st
    obtain ⟨G, fG, qG⟩ := c139 stw h1 h2 hw hA hv
    have stG := jf_fr_st fG stw
    have rG := st_r2_11 stG
    have hIG : ∀ k, k < 4096 → jm_I G 175 k = jI (jq_mk M v j k) := by
      intro k hk
      rw [(fG.2.2.2.2 175 (by decide)).1, jm_I_pI]
      unfold jq_mk
      by_cases h : k = v
      · rw [if_pos ⟨rfl, h⟩, if_pos h, jI_n]
      · rw [if_neg (fun g => h g.2), if_neg h]
        exact hI k hk
    have hMM : ∀ k, -1 ≤ jq_mk M v j k ∧ jq_mk M v j k ≤ 4096 := by
      intro k
      unfold jq_mk
      split
      · omega
      · exact hM k
    have hun := jq_un_mk (M := M) (v := v) (j := j) (by omega) (by omega) (2 ^ N)
    rw [if_pos hv, hu] at hun
    have fHG : jf_fr jq_PC H G := jf_fr_trans fw (jf_fr_mono fG (fun q h => jq_RR_PC h))
    have in1 : ¬ (nI v < 0 ∨ 4096 ≤ (nI v).toNatClampNeg) := nI_inK (by omega) (by decide)
    have in2 : ¬ (nI (jq_g N W A v) < 0 ∨ 4096 ≤ (nI (jq_g N W A v)).toNatClampNeg) := nI_inK (by omega) (by decide)
    have l1 : ¬ (Int32.ofNat 4096) ≤ nI v := fun g => by have := (nI_leI (a := 4096) (by decide) (by omega)).mp g; omega
    have l2 : nI (jq_g N W A v) < (Int32.ofNat 4096) := (nI_ltI (b := 4096) (by omega) (by decide)).mpr (by omega)
    have cj : ¬ (4096 : Int32) < nI j := fun g => by have := (nI_ltI (a := 4096) (by decide) (by omega)).mp g; omega
    -- one turn
    have turn : ∀ Q, jm_w none 8 138 45 [.ref 2, .int (nI N), .int (nI W), .int (nI A), .int (nI X), .int (nI K), .int (nI v), .int (nI j), .int (-1), .int 0] [] H Q = jm_w none 8 138 45 [.ref 2, .int (nI N), .int (nI W), .int (nI A), .int (nI X), .int (nI K), .int (nI (jq_g N W A v)), .int (nI (j + 1)), .int (jI (jq_mk M v j (jq_g N W A v))), .int (if jq_g N W A v = 2 ^ (N - 1) then 1 else 0)] [] G Q := by
      intro Q
      rw [u138_45, if_neg cj, u138_53, if_neg (fun g => g rfl), u138_59, if_neg (fun g => g rfl), u138_64, if_neg (nI_geK (by omega)), u138_69 (st_t2 st) (by rw [r]; decide) (by rw [r]; decide) (by rw [r, st_t175 st]; decide), r, st_l175 st, if_neg l1,
        u138_79 (st_t2 st) (by rw [r]; decide) (by rw [r, st_l175 st]; exact in1) (by rw [r]; exact st_t175 st), r, nI_cl (by omega), qG]
      simp only [Option.toList_some, List.append_nil]
      rw [u138_97, c69 (by omega) (by omega) (by omega), nI_succK]
      simp only [Option.toList_some, List.append_nil]
      rw [u138_108, if_neg (nI_geK (by omega)), u138_115 (st_t2 stG) (by rw [rG]; decide) (by rw [rG]; decide) (by rw [rG, st_t175 stG]; decide), rG, st_l175 stG, if_pos l2, u138_129 (st_t2 stG) (by rw [rG]; decide) (by rw [rG, st_l175 stG]; exact in2) (by rw [rG]; decide) (by rw [rG]; exact st_t175 stG), rG, nI_cl (by omega), hIG _ (by omega), u138_136]
    have stop : ∀ (c x8 x9 : Int32) (H : jm_H) (Q : Option Value → jm_H → Prop), (x8 ≠ -1 ∨ x9 ≠ 0) → jm_w none 8 138 45 [.ref 2, .int (nI N), .int (nI W), .int (nI A), .int (nI X), .int (nI K), .int (nI (jq_g N W A v)), .int c, .int x8, .int x9] [] H Q = jm_w none 8 138 141 [.ref 2, .int (nI N), .int (nI W), .int (nI A), .int (nI X), .int (nI K), .int (nI (jq_g N W A v)), .int c, .int x8, .int x9] [] H Q := by
      intro c x8 x9 H Q hx
      rw [u138_45, u138_53, u138_59]
      by_cases q1 : (4096 : Int32) < c
      · rw [if_pos q1]
      · rw [if_neg q1]
        by_cases q2 : x8 = -1
        · rw [if_neg (fun g => g q2), if_pos (by
            rcases hx with h | h
            · exact absurd q2 h
            · exact h)]
        · rw [if_pos q2]
    have hz8 : (jI (jq_mk M v j (jq_g N W A v)) = (-1 : Int32)) ↔ jq_mk M v j (jq_g N W A v) = -1 := by
      have := hMM (jq_g N W A v)
      rw [jI_m1, jI_eq ⟨by omega, by omega⟩ (by decide)]
    by_cases hn : jq_g N W A v = 2 ^ (N - 1)
    · refine ⟨G, fHG, fun Q => ?_⟩
      rw [turn, if_pos hn, stop _ _ _ _ _ (Or.inr i1_0), e138 hK, jq_lp, if_pos hn]
      unfold jq_an
      by_cases k0 : K = 0
      · rw [if_pos k0, if_pos k0, jI_n]
      · by_cases k1 : K = 1
        · rw [if_neg k0, if_neg k0, if_pos k1, if_pos k1, jI_n]
        · rw [if_neg k0, if_neg k0, if_neg k1, if_neg k1, if_neg i1_0]
          rfl
    · by_cases hc : 0 ≤ jq_mk M v j (jq_g N W A v)
      · refine ⟨G, fHG, fun Q => ?_⟩
        rw [turn, if_neg hn, stop _ _ _ _ _ (Or.inl (fun g => by have := hz8.mp g; omega)), e138 hK, jq_lp, if_neg hn, if_pos hc]
        unfold jq_an
        by_cases k0 : K = 0
        · rw [if_pos k0, if_pos k0, jI_n]
        · by_cases k1 : K = 1
          · rw [if_neg k0, if_neg k0, if_pos k1, if_pos k1, jI_n]
          · rw [if_neg k0, if_neg k0, if_neg k1, if_neg k1, if_pos rfl, jI_n, jI_sub, Int.natCast_add]
            rfl
      · have hm1 : jq_mk M v j (jq_g N W A v) = -1 := by have := hMM (jq_g N W A v); omega
        obtain ⟨H1, f1, q1⟩ := s138 (X := X) h1 h2 hw hA hK f (jq_mk M v j) (j + 1) (jq_g N W A v) G stG hIG hMM hg hm1 (by omega) (by omega)
        refine ⟨H1, jf_fr_trans fHG f1, fun Q => ?_⟩
        rw [turn, if_neg hn, hm1, jq_lp, if_neg hn, if_neg hc]
        exact q1 Q
/-- all marks taken away, by the class -/
theorem s12 : ∀ (d i : Nat) (H : jm_H), i + d = 4096 → jm_st H → (∀ k, k < i → jm_I H 175 k = -1) → ∃ H1, (∀ k, k < 4096 → jm_I H1 175 k = -1) ∧ jf_fr (fun q => q = 175) H H1 ∧ ∀ Q, jm_w none 1 12 5 [.ref 175, .int (-1), .int (nI i), .int (Int32.ofNat 4096)] [] H Q = Q none H1
  | 0, i, H, hd, st, hz => by
    refine ⟨H, fun k hk => hz k (by omega), jf_fr_refl H, fun Q => ?_⟩
    have : i = 4096 := by omega
    subst this
    rw [u12_5, if_pos (by decide), u12_20]
  | d + 1, i, H, hd, st, hz => by
    have fr : jf_fr (fun q => q = 175) H (jm_pI H 175 i (-1)) := jf_fr_pI rfl
    obtain ⟨H1, z1, f1, q1⟩ := s12 d (i + 1) (jm_pI H 175 i (-1)) (by omega) (jf_fr_st fr st) (fun k hk => by
      rw [jm_I_pI]
      by_cases h : k = i
      · rw [if_pos ⟨rfl, h⟩]
      · rw [if_neg (fun g => h g.2)]
        exact hz k (by omega))
    refine ⟨H1, z1, jf_fr_trans fr f1, fun Q => ?_⟩
    rw [u12_5, if_neg (show ¬ Int32.ofNat 4096 ≤ nI i from fun g => by have := (nI_leI (a := 4096) (by decide) (by omega)).mp g; omega), u12_10 (by rw [st_l175 st]; exact nI_inK (by omega) (by decide)) (st_t175 st), nI_cl (by omega), nI_succK]
    exact q1 Q
theorem C138 {A X K : Nat} (h1 : 3 ≤ N) (h2 : N ≤ 12) (hw : W ≤ 2) (hA : A < 2 ^ N) (hX : X < 2 ^ N) (hK : K < 3) : jq_C 138 [.int (nI N), .int (nI W), .int (nI A), .int (nI X), .int (nI K)] (.int (jI (jq_an K (jq_lp (jq_g N W A) (2 ^ (N - 1)) (2 ^ N) (fun _ => -1) 0 X)))) := fun H st => by
  have hp := p2_12 h2
  obtain ⟨G, zG, fG, qG⟩ := s12 4096 0 H (by decide) st (fun k hk => absurd hk (Nat.not_lt_zero k))
  have stG := jf_fr_st fG st
  obtain ⟨H1, f1, q1⟩ := s138 (X := X) h1 h2 hw hA hK (2 ^ N) (fun _ => -1) 0 X G stG (fun k hk => by rw [zG k hk]; rfl) (fun k => by decide) hX rfl (jq_un_all _) (by omega)
  refine ⟨H1, jf_fr_trans (jf_fr_mono fG (fun q h => Or.inr (Or.inr h))) f1, fun Q => ?_⟩
  have k0 : ¬ nI K < 0 := nI_geK (by omega)
  have k3 : nI K ≤ (2 : Int32) := (nI_leI (b := 2) (by omega) (by decide)).mpr (by omega)
  rw [en138, u138_0, c115, if_pos ⟨jr_row_nI h1 h2 hw hA, jr_row_nI h1 h2 hw hX⟩]
  simp only [Option.toList_some, List.append_nil]
  rw [u138_8, if_neg i1_0, u138_11, if_neg k0, u138_16, if_pos k3, u138_24 (st_t2 st) (by rw [st_r2_11 st]; decide), st_r2_11 st, en12, u12_0 (by decide) (by rw [st_t175 st]; decide), st_l175 st]
  show jm_w none 1 12 5 [.ref 175, .int (-1), .int (nI 0), .int (Int32.ofNat 4096)] [] H _ = _
  rw [qG]
  simp only [Option.toList_none, List.nil_append]
  rw [u138_32]
  exact q1 Q
/-- the reference's loop -/
theorem e241 {n w a x : Int32} {K : Nat} (hK : K < 3) {c v x8 x9 : Int32} {H : jm_H} {Q : Option Value → jm_H → Prop} : jm_w none 8 241 157 [.ref 180, .int n, .int w, .int a, .int x, .int (nI K), .int c, .int v, .int x8, .int x9] [] H Q = Q (some (.int (if K = 0 then c else if K = 1 then v else x9))) H := by
  have z0 : (nI K = (0 : Int32)) = (K = 0) := propext (nI_eqI (b := 0) (by omega) (by decide))
  have z1 : (nI K = (1 : Int32)) = (K = 1) := propext (nI_eqI (b := 1) (by omega) (by decide))
  rw [u241_157, ite_eqP (congrArg Not z0)]
  by_cases h0 : K = 0
  · rw [if_neg (fun g => g h0), if_pos h0, u241_162, u241_180]
  · rw [if_pos h0, if_neg h0, u241_167, ite_eqP (congrArg Not z1)]
    by_cases h1 : K = 1
    · rw [if_neg (fun g => g h1), if_pos h1, u241_173, u241_180]
    · rw [if_pos h1, if_neg h1, u241_178, u241_180]
theorem s241 {A X K : Nat} (h1 : 3 ≤ N) (h2 : N ≤ 12) (hw : W ≤ 2) (hA : A < 2 ^ N) (hK : K < 3) : ∀ (f : Nat) (M : Nat → Int) (j v : Nat) (H : jm_H), jm_st H → (∀ k, k < 2 ^ N → jm_I H 208 k = jI (M k)) → (∀ k, -1 ≤ M k ∧ M k ≤ 4096) → v < 2 ^ N → M v = -1 → jq_un M (2 ^ N) = f → j + f ≤ 4096 → ∃ H1, jq_fn H H1 ∧ ∀ Q, jm_w none 8 241 69 [.ref 180, .int (nI N), .int (nI W), .int (nI A), .int (nI X), .int (nI K), .int (nI j), .int (nI v), .int 1, .int 0] [] H Q = Q (some (.int (jI (jq_an K (jq_lp (jq_g N W A) (2 ^ (N - 1)) f M j v))))) H1
  | 0, M, j, v, H, st, hI, hM, hv, hMv, hu, hj => by
    have := jq_un_mk (M := M) (v := v) (j := 0) (by decide) (by omega) (2 ^ N)
    rw [if_pos hv, hu] at this
    omega
  | f + 1, M, j, v, H, st, hI, hM, hv, hMv, hu, hj => by
    have hp := p2_12 h2
    have hg := jq_g_lt (N := N) (W := W) (A := A) (x := v) h1
    have r := st_r180_61 st
    have fw : jq_fn H (jm_pI H 208 v (nI j)) := ⟨jf_fr_pI (by decide), fun k hk => by rw [jm_I_pI, if_neg (by omega)]⟩
    have stw := jq_fn_st fw st
    obtain ⟨G, fG, qG⟩ := c242 stw h1 h2 hw hA hv
    have stG := jq_fm_st fG stw
    have rG := st_r180_61 stG
    have hIG : ∀ k, k < 2 ^ N → jm_I G 208 k = jI (jq_mk M v j k) := by
      intro k hk
      rw [(fG.1.2.2.2.2 208 (by decide)).1, jm_I_pI]
      unfold jq_mk
      by_cases h : k = v
      · rw [if_pos ⟨rfl, h⟩, if_pos h, jI_n]
      · rw [if_neg (fun g => h g.2), if_neg h]
        exact hI k hk
    have hMM : ∀ k, -1 ≤ jq_mk M v j k ∧ jq_mk M v j k ≤ 4096 := by
      intro k
      unfold jq_mk
      split
      · omega
      · exact hM k
    have hun := jq_un_mk (M := M) (v := v) (j := j) (by omega) (by omega) (2 ^ N)
    rw [if_pos hv, hu] at hun
    have fHG : jq_fn H G := jq_fn_trans fw (jq_fn_of fG)
    have in1 : ¬ (nI v < 0 ∨ 4096 ≤ (nI v).toNatClampNeg) := nI_inK (by omega) (by decide)
    have in2 : ¬ (nI (jq_g N W A v) < 0 ∨ 4096 ≤ (nI (jq_g N W A v)).toNatClampNeg) := nI_inK (by omega) (by decide)
    have hMg := hMM (jq_g N W A v)
    have zge : ((0 : Int32) ≤ jI (jq_mk M v j (jq_g N W A v))) = (0 ≤ jq_mk M v j (jq_g N W A v)) := propext (jI_le (a := 0) (by decide) ⟨by omega, by omega⟩)
    have zlt : (jI (jq_mk M v j (jq_g N W A v)) < (0 : Int32)) = (jq_mk M v j (jq_g N W A v) < 0) := propext (jI_lt (b := 0) ⟨by omega, by omega⟩ (by decide))
    have turn : ∀ Q, jm_w none 8 241 69 [.ref 180, .int (nI N), .int (nI W), .int (nI A), .int (nI X), .int (nI K), .int (nI j), .int (nI v), .int 1, .int 0] [] H Q = if jq_g N W A v = 2 ^ (N - 1) then jm_w none 8 241 69 [.ref 180, .int (nI N), .int (nI W), .int (nI A), .int (nI X), .int (nI K), .int (nI (j + 1)), .int (nI (jq_g N W A v)), .int 0, .int 0] [] G Q else if 0 ≤ jq_mk M v j (jq_g N W A v) then jm_w none 8 241 69 [.ref 180, .int (nI N), .int (nI W), .int (nI A), .int (nI X), .int (nI K), .int (nI (j + 1)), .int (nI (jq_g N W A v)), .int 0, .int (nI (j + 1) - jI (jq_mk M v j (jq_g N W A v)))] [] G Q else jm_w none 8 241 69 [.ref 180, .int (nI N), .int (nI W), .int (nI A), .int (nI X), .int (nI K), .int (nI (j + 1)), .int (nI (jq_g N W A v)), .int 1, .int 0] [] G Q := by
      intro Q
      have up : ∀ c : Int32, jm_w none 8 241 121 [.ref 180, .int (nI N), .int (nI W), .int (nI A), .int (nI X), .int (nI K), .int (nI (j + 1)), .int (nI (jq_g N W A v)), .int 1, .int 0] [.int c] G Q = jm_w none 8 241 129 [.ref 180, .int (nI N), .int (nI W), .int (nI A), .int (nI X), .int (nI K), .int (nI (j + 1)), .int (nI (jq_g N W A v)), .int c, .int 0] [.int (if jq_g N W A v = 2 ^ (N - 1) then 1 else 0)] G Q := by
        intro c
        rw [u241_121, c204 (by omega) (by omega) (by omega)]
        simp only [Option.toList_some, List.append_nil]
      rw [u241_69, if_neg i1_0, u241_74 (st_t180 st) (by rw [r]; decide) (by rw [r, st_l208 st]; exact in1) (by rw [r]; exact st_t208 st), r, nI_cl (by omega), qG]
      simp only [Option.toList_some, List.append_nil]
      rw [u241_92, c204 (by omega) (by omega) (by omega), nI_succK]
      simp only [Option.toList_some, List.append_nil]
      rw [u241_103]
      by_cases hn : jq_g N W A v = 2 ^ (N - 1)
      · rw [if_pos hn, if_pos i1_0, if_pos hn, u241_120, up, if_pos hn, u241_129, if_pos i1_0]
      · rw [if_neg hn, if_neg (by decide), if_neg hn, u241_106 (st_t180 stG) (by rw [rG]; decide) (by rw [rG, st_l208 stG]; exact in2) (by rw [rG]; decide) (by rw [rG]; exact st_t208 stG), rG, nI_cl (by omega), hIG _ hg, ite_eqP zge]
        by_cases hc : 0 ≤ jq_mk M v j (jq_g N W A v)
        · rw [if_pos hc, if_pos hc, u241_120, up, if_neg hn, u241_129, if_neg (by decide), u241_132 (st_t180 stG) (by rw [rG]; decide) (by rw [rG, st_l208 stG]; exact in2) (by rw [rG]; decide) (by rw [rG]; exact st_t208 stG), rG, nI_cl (by omega), hIG _ hg, ite_eqP zlt, if_neg (by omega), u241_142 (st_t180 stG) (by rw [rG]; decide) (by rw [rG, st_l208 stG]; exact in2) (by rw [rG]; decide) (by rw [rG]; exact st_t208 stG), rG, nI_cl (by omega), hIG _ hg]
        · rw [if_neg hc, if_neg hc, u241_116, up, if_neg hn, u241_129, if_neg (by decide), u241_132 (st_t180 stG) (by rw [rG]; decide) (by rw [rG, st_l208 stG]; exact in2) (by rw [rG]; decide) (by rw [rG]; exact st_t208 stG), rG, nI_cl (by omega), hIG _ hg, ite_eqP zlt, if_pos (by omega)]
    by_cases hn : jq_g N W A v = 2 ^ (N - 1)
    · refine ⟨G, fHG, fun Q => ?_⟩
      rw [turn, if_pos hn, u241_69, if_pos rfl, e241 hK, jq_lp, if_pos hn]
      unfold jq_an
      by_cases k0 : K = 0
      · rw [if_pos k0, if_pos k0, jI_n]
      · by_cases k1 : K = 1
        · rw [if_neg k0, if_neg k0, if_pos k1, if_pos k1, jI_n]
        · rw [if_neg k0, if_neg k0, if_neg k1, if_neg k1]
          rfl
    · by_cases hc : 0 ≤ jq_mk M v j (jq_g N W A v)
      · refine ⟨G, fHG, fun Q => ?_⟩
        rw [turn, if_neg hn, if_pos hc, u241_69, if_pos rfl, e241 hK, jq_lp, if_neg hn, if_pos hc]
        unfold jq_an
        by_cases k0 : K = 0
        · rw [if_pos k0, if_pos k0, jI_n]
        · by_cases k1 : K = 1
          · rw [if_neg k0, if_neg k0, if_pos k1, if_pos k1, jI_n]
          · rw [if_neg k0, if_neg k0, if_neg k1, if_neg k1, jI_n, jI_sub, Int.natCast_add]
            rfl
      · have hm1 : jq_mk M v j (jq_g N W A v) = -1 := by omega
        obtain ⟨H1, f1, q1⟩ := s241 (X := X) h1 h2 hw hA hK f (jq_mk M v j) (j + 1) (jq_g N W A v) G stG hIG hMM hg hm1 (by omega) (by omega)
        refine ⟨H1, jq_fn_trans fHG f1, fun Q => ?_⟩
        rw [turn, if_neg hn, if_neg hc, jq_lp, if_neg hn, if_neg hc]
        exact q1 Q
theorem s241z {n w a x k : Int32} (h2 : N ≤ 12) (hn : n = nI N) : ∀ (d i : Nat) (H : jm_H), i + d = 2 ^ N → jm_st H → (∀ k, k < i → jm_I H 208 k = -1) → ∃ H1, (∀ k, k < 2 ^ N → jm_I H1 208 k = -1) ∧ jq_fn H H1 ∧ ∀ Q, jm_w none 8 241 34 [.ref 180, .int n, .int w, .int a, .int x, .int k, .int (nI i), .null, .null, .null] [] H Q = jm_w none 8 241 56 [.ref 180, .int n, .int w, .int a, .int x, .int k, .int (nI (2 ^ N)), .null, .null, .null] [] H1 Q
  | 0, i, H, hd, st, hz => by
    have hp := p2_12 h2
    refine ⟨H, fun k hk => hz k (by omega), jq_fn_refl H, fun Q => ?_⟩
    have : i = 2 ^ N := by omega
    subst this
    subst hn
    rw [u241_34, nI_p2 (by omega), if_pos ((nI_leI (by omega) (by omega)).mpr (Nat.le_refl _))]
  | d + 1, i, H, hd, st, hz => by
    have hp := p2_12 h2
    have r := st_r180_61 st
    have fr : jq_fn H (jm_pI H 208 i (-1)) := ⟨jf_fr_pI (by decide), fun k hk => by rw [jm_I_pI, if_neg (by omega)]⟩
    obtain ⟨H1, z1, f1, q1⟩ := s241z h2 hn d (i + 1) (jm_pI H 208 i (-1)) (by omega) (jq_fn_st fr st) (fun k hk => by
      rw [jm_I_pI]
      by_cases h : k = i
      · rw [if_pos ⟨rfl, h⟩]
      · rw [if_neg (fun g => h g.2)]
        exact hz k (by omega))
    refine ⟨H1, z1, jq_fn_trans fr f1, fun Q => ?_⟩
    subst hn
    rw [u241_34, nI_p2 (by omega), if_neg (fun g => by have := (nI_leI (by omega) (by omega)).mp g; omega), u241_42 (st_t180 st) (by rw [r]; decide) (by rw [r, st_l208 st]; exact nI_inK (by omega) (by decide)) (by rw [r]; exact st_t208 st), r, nI_cl (by omega), nI_succK]
    exact q1 Q
theorem M241 {A X K : Nat} (h1 : 3 ≤ N) (h2 : N ≤ 12) (hw : W ≤ 2) (hA : A < 2 ^ N) (hX : X < 2 ^ N) (hK : K < 3) : jq_M 241 [.int (nI N), .int (nI W), .int (nI A), .int (nI X), .int (nI K)] (.int (jI (jq_an K (jq_lp (jq_g N W A) (2 ^ (N - 1)) (2 ^ N) (fun _ => -1) 0 X)))) := fun H st => by
  have hp := p2_12 h2
  obtain ⟨G, zG, fG, qG⟩ := s241z (n := nI N) (w := nI W) (a := nI A) (x := nI X) (k := nI K) h2 rfl (2 ^ N) 0 H (by omega) st (fun k hk => absurd hk (Nat.not_lt_zero k))
  have stG := jq_fn_st fG st
  obtain ⟨H1, f1, q1⟩ := s241 (X := X) h1 h2 hw hA hK (2 ^ N) (fun _ => -1) 0 X G stG (fun k hk => by rw [zG k hk]; rfl) (fun k => by decide) hX rfl (jq_un_all _) (by omega)
  refine ⟨H1, jq_fn_trans fG f1, fun Q => ?_⟩
  have k4 : (nI K).toInt = K := nI_toInt (by omega)
  rw [en241, u241_0, c220, if_pos (jr_row_nI h1 h2 hw hA)]
  simp only [Option.toList_some, List.append_nil]
  rw [u241_6, if_neg i1_0, u241_9, c220, if_pos (jr_row_nI h1 h2 hw hX)]
  simp only [Option.toList_some, List.append_nil]
  rw [u241_16, if_neg i1_0, u241_19, c176, i32_0, i32_2, if_pos (by omega)]
  simp only [Option.toList_some, List.append_nil]
  rw [u241_26, if_pos i1_0, u241_31]
  show jm_w none 8 241 34 [.ref 180, .int (nI N), .int (nI W), .int (nI A), .int (nI X), .int (nI K), .int (nI 0), .null, .null, .null] [] H Q = _
  rw [qG, u241_56]
  exact q1 Q
end STEPS
