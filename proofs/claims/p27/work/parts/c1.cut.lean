set_option maxRecDepth 20000
/-! the reference cuts a text into tokens: it comes to an end, and the tokens are in bounds -/
/-- while a text is read, what of the reference stays as it was -/
def jY (G0 G : jm_H) : Prop := jf_fr (fun r => r = 180 ∨ (182 ≤ r ∧ r ≤ 186) ∨ r = 192 ∨ (194 ≤ r ∧ r ≤ 200)) G0 G ∧ jm_st G ∧ ∀ k, k = 2 ∨ k = 21 ∨ k = 25 ∨ k = 39 ∨ k = 40 → jm_I G 180 k = jm_I G0 180 k
theorem jY_st {G0 G : jm_H} (h : jY G0 G) : jm_st G := h.2.1
theorem jY_refl {G : jm_H} (st : jm_st G) : jY G G := ⟨jf_fr_refl G, st, fun _ _ => rfl⟩
theorem jY_pI {G0 G : jm_H} {r k : Nat} {v : Int32} (h : jY G0 G) (hk : (r = 180 ∧ k ≠ 2 ∧ k ≠ 21 ∧ k ≠ 25 ∧ k ≠ 39 ∧ k ≠ 40) ∨ (182 ≤ r ∧ r ≤ 186) ∨ r = 192 ∨ (194 ≤ r ∧ r ≤ 200)) : jY G0 (jm_pI G r k v) := by
  have f : jf_fr (fun r => r = 180 ∨ (182 ≤ r ∧ r ≤ 186) ∨ r = 192 ∨ (194 ≤ r ∧ r ≤ 200)) G (jm_pI G r k v) := jf_fr_pI (by omega)
  exact ⟨jf_fr_trans h.1 f, jf_fr_st f h.2.1, fun j hj => by rw [jm_I_pI, if_neg (by omega)]; exact h.2.2 j hj⟩
theorem jY_pL {G0 G : jm_H} {r k : Nat} {v : Int64} (h : jY G0 G) (hk : r = 180 ∨ (182 ≤ r ∧ r ≤ 186) ∨ r = 192 ∨ (194 ≤ r ∧ r ≤ 200)) : jY G0 (jm_pL G r k v) := by
  have f : jf_fr (fun r => r = 180 ∨ (182 ≤ r ∧ r ≤ 186) ∨ r = 192 ∨ (194 ≤ r ∧ r ≤ 200)) G (jm_pL G r k v) := jf_fr_pL hk
  exact ⟨jf_fr_trans h.1 f, jf_fr_st f h.2.1, fun j hj => h.2.2 j hj⟩
/-- so many tokens are there, none of them the end -/
def jC (G0 : jm_H) (z n : Nat) (G : jm_H) : Prop := jY G0 G ∧ jm_I G 180 4 = nI z ∧ jm_I G 180 10 = nI n ∧ (∀ k, k < n → jm_I G 183 k ≠ 0) ∧ ∀ k, k < n → jm_I G 183 k = 2 → 0 ≤ (jm_I G 185 k).toInt ∧ (jm_I G 185 k).toInt ≤ 9999
/-- all tokens are there -/
def jCE (G0 : jm_H) (G : jm_H) : Prop := jY G0 G ∧ ∃ n : Nat, jm_I G 180 10 = nI n ∧ 1 ≤ n ∧ n ≤ 401 ∧ (n = 401 ∨ jm_I G 183 (n - 1) = 0) ∧ (∀ k, k < n → jm_I G 183 k = 0 → k + 1 = n) ∧ ∀ k, k < n → jm_I G 183 k = 2 → 0 ≤ (jm_I G 185 k).toInt ∧ (jm_I G 185 k).toInt ≤ 9999
def jc_tok (G : jm_H) (n : Nat) (x1 x2 x3 : Int32) (y4 : Int64) : jm_H := jm_pI (jm_pL (jm_pI (jm_pI (jm_pI G 183 n x1) 184 n x2) 185 n x3) 186 n y4) 180 10 (nI (n + 1))
theorem jc_tok_Y {G0 G : jm_H} {n : Nat} {x1 x2 x3 : Int32} {y4 : Int64} (h : jY G0 G) : jY G0 (jc_tok G n x1 x2 x3 y4) := jY_pI (jY_pL (jY_pI (jY_pI (jY_pI h (by omega)) (by omega)) (by omega)) (by omega)) (by omega)
theorem jc_tok_k {G : jm_H} {n k : Nat} {x1 x2 x3 : Int32} {y4 : Int64} : jm_I (jc_tok G n x1 x2 x3 y4) 183 k = if k = n then x1 else jm_I G 183 k := by
  unfold jc_tok
  simp only [jm_I_pI, jm_I_pL, Nat.reduceEqDiff, false_and, true_and, if_false]
theorem jc_tok_v {G : jm_H} {n k : Nat} {x1 x2 x3 : Int32} {y4 : Int64} : jm_I (jc_tok G n x1 x2 x3 y4) 185 k = if k = n then x3 else jm_I G 185 k := by
  unfold jc_tok
  simp only [jm_I_pI, jm_I_pL, Nat.reduceEqDiff, false_and, true_and, if_false]
theorem jc_tok_n {G : jm_H} {n : Nat} {x1 x2 x3 : Int32} {y4 : Int64} : jm_I (jc_tok G n x1 x2 x3 y4) 180 10 = nI (n + 1) := by
  unfold jc_tok
  rw [jm_I_pI, if_pos ⟨rfl, rfl⟩]
theorem jc_tok_z {G : jm_H} {n : Nat} {x1 x2 x3 : Int32} {y4 : Int64} : jm_I (jc_tok G n x1 x2 x3 y4) 180 4 = jm_I G 180 4 := by
  unfold jc_tok
  simp only [jm_I_pI, jm_I_pL, Nat.reduceEqDiff, false_and, and_false, if_false]
theorem jC_tok {G0 G : jm_H} {z n : Nat} {x1 x2 x3 : Int32} {y4 : Int64} (h : jC G0 z n G) (h1 : x1 ≠ 0) (h2 : x1 = 2 → 0 ≤ x3.toInt ∧ x3.toInt ≤ 9999) : jC G0 z (n + 1) (jc_tok G n x1 x2 x3 y4) := by
  refine ⟨jc_tok_Y h.1, jc_tok_z.trans h.2.1, jc_tok_n, fun k hk => ?_, fun k hk => ?_⟩
  · rw [jc_tok_k]
    by_cases g : k = n
    · rw [if_pos g]; exact h1
    · rw [if_neg g]; exact h.2.2.2.1 k (by omega)
  · rw [jc_tok_k, jc_tok_v]
    by_cases g : k = n
    · rw [if_pos g, if_pos g]; exact h2
    · rw [if_neg g, if_neg g]; exact h.2.2.2.2 k (by omega)
theorem jCE_tok {G0 G : jm_H} {z n : Nat} {x2 x3 : Int32} {y4 : Int64} (h : jC G0 z n G) (hn : n ≤ 400) : jCE G0 (jc_tok G n 0 x2 x3 y4) := by
  refine ⟨jc_tok_Y h.1, n + 1, jc_tok_n, by omega, by omega, Or.inr (by rw [jc_tok_k, if_pos (by omega)]), fun k hk => ?_, fun k hk => ?_⟩
  · rw [jc_tok_k]
    by_cases g : k = n
    · intro _; omega
    · rw [if_neg g]; intro q; exact absurd q (h.2.2.2.1 k (by omega))
  · rw [jc_tok_k, jc_tok_v]
    by_cases g : k = n
    · rw [if_pos g]; intro q; exact absurd q (by decide)
    · rw [if_neg g, if_neg g]; exact h.2.2.2.2 k (by omega)
/-- a byte of the text -/
def jc_b (G : jm_H) (z i : Nat) : Int32 := if z ≤ i then 0 else jm_I G 182 i &&& 255
def jz_k (v : Option Value) : Prop := ∃ x : Int32, v = some (.int x) ∧ x ≠ 0 ∧ ¬ x = 2
def jz_l (x : Int32) (v : Option Value) : Prop := v = some (.int 0) ∨ (v = some (.int 1) ∧ x ≠ 0)
def jz_d (x : Int32) (v : Option Value) : Prop := v = some (.int 0) ∨ (v = some (.int 1) ∧ 48 ≤ x.toInt ∧ x.toInt ≤ 57)
theorem sw167 {x : Int32} (h0 : ¬ x = 40) (h1 : ¬ x = 41) (h2 : ¬ x = 42) (h3 : ¬ x = 43) (h4 : ¬ x = 44) (h5 : ¬ x = 45) (h6 : ¬ x = 46) (h7 : ¬ x = 47) (h8 : ¬ x = 48) (h9 : ¬ x = 49) (h10 : ¬ x = 50) (h11 : ¬ x = 51) (h12 : ¬ x = 52) (h13 : ¬ x = 53) (h14 : ¬ x = 54) (h15 : ¬ x = 55) (h16 : ¬ x = 56) (h17 : ¬ x = 57) (h18 : ¬ x = 58) (h19 : ¬ x = 59) : x.toInt < 40 ∨ 59 < x.toInt := by
  rcases Int.lt_or_le x.toInt 40 with g | g
  · exact Or.inl g
  · rcases Int.lt_or_le 59 x.toInt with g2 | g2
    · exact Or.inr g2
    · obtain ⟨m, hm, rfl⟩ := ji_nn (k := 60) (x := x) (by omega) (by omega)
      rw [nI_toInt (by omega)] at g
      exfalso
      obtain ⟨j, rfl⟩ : ∃ j, m = 40 + j := ⟨m - 40, by omega⟩
      have hj : j < 20 := by omega
      match j, hj with
      | 0, _ => exact h0 rfl
      | 1, _ => exact h1 rfl
      | 2, _ => exact h2 rfl
      | 3, _ => exact h3 rfl
      | 4, _ => exact h4 rfl
      | 5, _ => exact h5 rfl
      | 6, _ => exact h6 rfl
      | 7, _ => exact h7 rfl
      | 8, _ => exact h8 rfl
      | 9, _ => exact h9 rfl
      | 10, _ => exact h10 rfl
      | 11, _ => exact h11 rfl
      | 12, _ => exact h12 rfl
      | 13, _ => exact h13 rfl
      | 14, _ => exact h14 rfl
      | 15, _ => exact h15 rfl
      | 16, _ => exact h16 rfl
      | 17, _ => exact h17 rfl
      | 18, _ => exact h18 rfl
      | 19, _ => exact h19 rfl
      | n + 20, hq => exact absurd hq (by omega)
section CUT
variable {S : Option (Nat × (Nat → Int32))} {H0 : jm_H}
theorem c162 {G : jm_H} (st : jm_st G) {z i : Nat} (hz : z ≤ 2000) (hi : i < 2147483648) (ez : jm_I G 180 4 = nI z) {Q : Option Value → jm_H → Prop} : jm_c S 162 [.ref 180, .int (nI i)] G Q = Q (some (.int (jc_b G z i))) G := by
  have r := st_r180_3 st
  rw [en162, u162_0 (st_t180 st), ez]
  unfold jc_b
  by_cases h : z ≤ i
  · rw [if_pos ((nI_leI (by omega) hi).mpr h), if_pos h, u162_21, u162_22]
  · rw [if_neg (fun g => h ((nI_leI (by omega) hi).mp g)), if_neg h, u162_8 (st_t180 st) (by rw [r]; decide) (by rw [r, st_l182 st]; exact nI_inK (by omega) (by decide)) (by rw [r]; exact Or.inl (st_t182 st)), u162_22, r, nI_cl hi]
theorem c163 {G : jm_H} (st : jm_st G) {n : Nat} (hn : n ≤ 402) (en : jm_I G 180 10 = nI n) {x1 x2 x3 : Int32} {y4 : Int64} {Q : Option Value → jm_H → Prop} : jm_c S 163 [.ref 180, .int x1, .int x2, .int x3, .long y4] G Q = Q none (jc_tok G n x1 x2 x3 y4) := by
  have r5 := st_r180_5 st
  have r6 := st_r180_6 st
  have r7 := st_r180_7 st
  have r8 := st_r180_8 st
  have cl := nI_cl (k := n) (by omega)
  have i3 : ¬ (nI n < 0 ∨ 403 ≤ n) := by
    have h := nI_inK (k := n) (n := 403) (by omega) (by decide)
    rw [cl] at h
    exact h
  have l3 := st_l183 st
  have l4 := st_l184 st
  have l5 := st_l185 st
  have l6 := st_l186 st
  have t0 := st_t180 st
  rw [en163, u163_0 (by first | exact t0 | (simp only [r5, r6, r7, r8, en, cl, l3, l4, l5, l6, jm_I_pI, jm_I_pL, Nat.reduceEqDiff, false_and, and_false, if_false]; first | decide | exact i3 | exact st_t183 st | exact st_t184 st | exact st_t185 st | exact st_t186 st)) (by first | exact t0 | (simp only [r5, r6, r7, r8, en, cl, l3, l4, l5, l6, jm_I_pI, jm_I_pL, Nat.reduceEqDiff, false_and, and_false, if_false]; first | decide | exact i3 | exact st_t183 st | exact st_t184 st | exact st_t185 st | exact st_t186 st)) (by first | exact t0 | (simp only [r5, r6, r7, r8, en, cl, l3, l4, l5, l6, jm_I_pI, jm_I_pL, Nat.reduceEqDiff, false_and, and_false, if_false]; first | decide | exact i3 | exact st_t183 st | exact st_t184 st | exact st_t185 st | exact st_t186 st)) (by first | exact t0 | (simp only [r5, r6, r7, r8, en, cl, l3, l4, l5, l6, jm_I_pI, jm_I_pL, Nat.reduceEqDiff, false_and, and_false, if_false]; first | decide | exact i3 | exact st_t183 st | exact st_t184 st | exact st_t185 st | exact st_t186 st)) (by first | exact t0 | (simp only [r5, r6, r7, r8, en, cl, l3, l4, l5, l6, jm_I_pI, jm_I_pL, Nat.reduceEqDiff, false_and, and_false, if_false]; first | decide | exact i3 | exact st_t183 st | exact st_t184 st | exact st_t185 st | exact st_t186 st)) (by first | exact t0 | (simp only [r5, r6, r7, r8, en, cl, l3, l4, l5, l6, jm_I_pI, jm_I_pL, Nat.reduceEqDiff, false_and, and_false, if_false]; first | decide | exact i3 | exact st_t183 st | exact st_t184 st | exact st_t185 st | exact st_t186 st)) (by first | exact t0 | (simp only [r5, r6, r7, r8, en, cl, l3, l4, l5, l6, jm_I_pI, jm_I_pL, Nat.reduceEqDiff, false_and, and_false, if_false]; first | decide | exact i3 | exact st_t183 st | exact st_t184 st | exact st_t185 st | exact st_t186 st)) (by first | exact t0 | (simp only [r5, r6, r7, r8, en, cl, l3, l4, l5, l6, jm_I_pI, jm_I_pL, Nat.reduceEqDiff, false_and, and_false, if_false]; first | decide | exact i3 | exact st_t183 st | exact st_t184 st | exact st_t185 st | exact st_t186 st)) (by first | exact t0 | (simp only [r5, r6, r7, r8, en, cl, l3, l4, l5, l6, jm_I_pI, jm_I_pL, Nat.reduceEqDiff, false_and, and_false, if_false]; first | decide | exact i3 | exact st_t183 st | exact st_t184 st | exact st_t185 st | exact st_t186 st)) (by first | exact t0 | (simp only [r5, r6, r7, r8, en, cl, l3, l4, l5, l6, jm_I_pI, jm_I_pL, Nat.reduceEqDiff, false_and, and_false, if_false]; first | decide | exact i3 | exact st_t183 st | exact st_t184 st | exact st_t185 st | exact st_t186 st)) (by first | exact t0 | (simp only [r5, r6, r7, r8, en, cl, l3, l4, l5, l6, jm_I_pI, jm_I_pL, Nat.reduceEqDiff, false_and, and_false, if_false]; first | decide | exact i3 | exact st_t183 st | exact st_t184 st | exact st_t185 st | exact st_t186 st)) (by first | exact t0 | (simp only [r5, r6, r7, r8, en, cl, l3, l4, l5, l6, jm_I_pI, jm_I_pL, Nat.reduceEqDiff, false_and, and_false, if_false]; first | decide | exact i3 | exact st_t183 st | exact st_t184 st | exact st_t185 st | exact st_t186 st)) (by first | exact t0 | (simp only [r5, r6, r7, r8, en, cl, l3, l4, l5, l6, jm_I_pI, jm_I_pL, Nat.reduceEqDiff, false_and, and_false, if_false]; first | decide | exact i3 | exact st_t183 st | exact st_t184 st | exact st_t185 st | exact st_t186 st))]
  simp only [r5, r6, r7, r8, en, cl, jm_I_pI, jm_I_pL, Nat.reduceEqDiff, false_and, and_false, if_false, nI_succK]
  rfl
theorem p164 {x : Int32} {G : jm_H} : jz (jE G) (jz_l x) (fun Q => jm_c S 164 [.int x] G Q) := by
  have h16 : jz (jE G) (jz_l x) (fun Q => jm_w S 1 164 16 [.int x] [] G Q) := jz_eq (fun _ => u164_16.trans (u164_17 (Or.inl rfl))) (jz_end rfl (Or.inl rfl))
  refine jz_eq (fun _ => en164.trans u164_0) (jz_if (fun _ => h16) (fun c => ?_))
  refine jz_eq (fun _ => u164_6) (jz_if (fun _ => h16) (fun _ => ?_))
  exact jz_eq (fun _ => u164_12.trans (u164_17 (Or.inr rfl))) (jz_end rfl (Or.inr ⟨rfl, fun g => c (by rw [g]; decide)⟩))
theorem p165 {x : Int32} {G : jm_H} : jz (jE G) (jz_d x) (fun Q => jm_c S 165 [.int x] G Q) := by
  have h16 : jz (jE G) (jz_d x) (fun Q => jm_w S 1 165 16 [.int x] [] G Q) := jz_eq (fun _ => u165_16.trans (u165_17 (Or.inl rfl))) (jz_end rfl (Or.inl rfl))
  refine jz_eq (fun _ => en165.trans u165_0) (jz_if (fun _ => h16) (fun c => ?_))
  refine jz_eq (fun _ => u165_6) (jz_if (fun _ => h16) (fun c2 => ?_))
  have g1 : ¬ x.toInt < (48 : Int32).toInt := fun q => c (Int32.lt_iff_toInt_lt.mpr q)
  have g2 : ¬ (57 : Int32).toInt < x.toInt := fun q => c2 (Int32.lt_iff_toInt_lt.mpr q)
  rw [show (48 : Int32).toInt = 48 from by decide] at g1
  rw [show (57 : Int32).toInt = 57 from by decide] at g2
  exact jz_eq (fun _ => u165_12.trans (u165_17 (Or.inr rfl))) (jz_end rfl (Or.inr ⟨rfl, by omega, by omega⟩))
theorem p156 {y0 : Int64} {x2 : Int32} {G : jm_H} (hG : jE H0 G) : jz (jE H0) jz_L (fun Q => jm_c S 156 [.long y0, .int x2] G Q) := by
  have b21 : ∀ {y0 : Int64} {q0 : Int64} {x2 : Int32} {G : jm_H}, jE H0 G → jz (jE H0) jz_L (fun Q => jm_w S 1 156 21 [.long y0, .null, .int x2] [.long q0] G Q) := by
    intro y0 q0 x2 G hG
    have st := True.intro
    refine jz_eq (fun _ => u156_21) ?_
    exact jz_end (hG) ⟨_, rfl⟩
  have b0 : ∀ {y0 : Int64} {x2 : Int32} {G : jm_H}, jE H0 G → jz (jE H0) jz_L (fun Q => jm_w S 1 156 0 [.long y0, .null, .int x2] [] G Q) := by
    intro y0 x2 G hG
    have st := True.intro
    refine jz_eq (fun _ => u156_0) ?_
    refine jz_if (fun c0 => ?_) (fun c0 => ?_)
    · have st := True.intro
      refine jz_eq (fun _ => u156_8) ?_
      exact b21 (hG)
    · have st := True.intro
      refine jz_eq (fun _ => u156_4) ?_
      exact b21 (hG)
  refine jz_eq (fun _ => en156) ?_
  exact b0 (hG)
theorem p167 {x0 : Int32} {G : jm_H} (hG : jE H0 G) : jz (jE H0) jz_k (fun Q => jm_c S 167 [.int x0] G Q) := by
  have b118 : ∀ {x0 : Int32} {G : jm_H}, jE H0 G → jz (jE H0) jz_k (fun Q => jm_w S 1 167 118 [.int x0] [] G Q) := by
    intro x0 G hG
    have st := True.intro
    refine jz_eq (fun _ => u167_118) ?_
    exact jz_end (hG) ⟨_, rfl, by decide, by decide⟩
  have b1 : ∀ {x0 : Int32} {p0 : Int32} {G : jm_H}, jE H0 G → jz (jE H0) jz_k (fun Q => jm_w S 1 167 1 [.int x0] [.int p0] G Q) := by
    intro x0 p0 G hG
    by_cases hs0 : p0 = (40 : Int32)
    · subst hs0
      have st := True.intro
      refine jz_eq (fun _ => u167_1_40) ?_
      have st := True.intro
      refine jz_eq (fun _ => u167_109) ?_
      exact jz_end (hG) ⟨_, rfl, by decide, by decide⟩
    by_cases hs1 : p0 = (41 : Int32)
    · subst hs1
      have st := True.intro
      refine jz_eq (fun _ => u167_1_41) ?_
      have st := True.intro
      refine jz_eq (fun _ => u167_112) ?_
      exact jz_end (hG) ⟨_, rfl, by decide, by decide⟩
    by_cases hs2 : p0 = (42 : Int32)
    · subst hs2
      have st := True.intro
      refine jz_eq (fun _ => u167_1_42) ?_
      have st := True.intro
      refine jz_eq (fun _ => u167_103) ?_
      exact jz_end (hG) ⟨_, rfl, by decide, by decide⟩
    by_cases hs3 : p0 = (43 : Int32)
    · subst hs3
      have st := True.intro
      refine jz_eq (fun _ => u167_1_43) ?_
      have st := True.intro
      refine jz_eq (fun _ => u167_98) ?_
      exact jz_end (hG) ⟨_, rfl, by decide, by decide⟩
    by_cases hs4 : p0 = (44 : Int32)
    · subst hs4
      have st := True.intro
      refine jz_eq (fun _ => u167_1_44) ?_
      have st := True.intro
      refine jz_eq (fun _ => u167_115) ?_
      exact jz_end (hG) ⟨_, rfl, by decide, by decide⟩
    by_cases hs5 : p0 = (45 : Int32)
    · subst hs5
      have st := True.intro
      refine jz_eq (fun _ => u167_1_45) ?_
      have st := True.intro
      refine jz_eq (fun _ => u167_100) ?_
      exact jz_end (hG) ⟨_, rfl, by decide, by decide⟩
    by_cases hs6 : p0 = (46 : Int32)
    · subst hs6
      have st := True.intro
      refine jz_eq (fun _ => u167_1_46) ?_
      exact b118 (hG)
    by_cases hs7 : p0 = (47 : Int32)
    · subst hs7
      have st := True.intro
      refine jz_eq (fun _ => u167_1_47) ?_
      have st := True.intro
      refine jz_eq (fun _ => u167_106) ?_
      exact jz_end (hG) ⟨_, rfl, by decide, by decide⟩
    by_cases hs8 : p0 = (48 : Int32)
    · subst hs8
      have st := True.intro
      refine jz_eq (fun _ => u167_1_48) ?_
      exact b118 (hG)
    by_cases hs9 : p0 = (49 : Int32)
    · subst hs9
      have st := True.intro
      refine jz_eq (fun _ => u167_1_49) ?_
      exact b118 (hG)
    by_cases hs10 : p0 = (50 : Int32)
    · subst hs10
      have st := True.intro
      refine jz_eq (fun _ => u167_1_50) ?_
      exact b118 (hG)
    by_cases hs11 : p0 = (51 : Int32)
    · subst hs11
      have st := True.intro
      refine jz_eq (fun _ => u167_1_51) ?_
      exact b118 (hG)
    by_cases hs12 : p0 = (52 : Int32)
    · subst hs12
      have st := True.intro
      refine jz_eq (fun _ => u167_1_52) ?_
      exact b118 (hG)
    by_cases hs13 : p0 = (53 : Int32)
    · subst hs13
      have st := True.intro
      refine jz_eq (fun _ => u167_1_53) ?_
      exact b118 (hG)
    by_cases hs14 : p0 = (54 : Int32)
    · subst hs14
      have st := True.intro
      refine jz_eq (fun _ => u167_1_54) ?_
      exact b118 (hG)
    by_cases hs15 : p0 = (55 : Int32)
    · subst hs15
      have st := True.intro
      refine jz_eq (fun _ => u167_1_55) ?_
      exact b118 (hG)
    by_cases hs16 : p0 = (56 : Int32)
    · subst hs16
      have st := True.intro
      refine jz_eq (fun _ => u167_1_56) ?_
      exact b118 (hG)
    by_cases hs17 : p0 = (57 : Int32)
    · subst hs17
      have st := True.intro
      refine jz_eq (fun _ => u167_1_57) ?_
      exact b118 (hG)
    by_cases hs18 : p0 = (58 : Int32)
    · subst hs18
      have st := True.intro
      refine jz_eq (fun _ => u167_1_58) ?_
      exact b118 (hG)
    by_cases hs19 : p0 = (59 : Int32)
    · subst hs19
      have st := True.intro
      refine jz_eq (fun _ => u167_1_59) ?_
      have st := True.intro
      refine jz_eq (fun _ => u167_96) ?_
      exact jz_end (hG) ⟨_, rfl, by decide, by decide⟩
    have st := True.intro
    refine jz_eq (fun _ => u167_1_d (sw167 hs0 hs1 hs2 hs3 hs4 hs5 hs6 hs7 hs8 hs9 hs10 hs11 hs12 hs13 hs14 hs15 hs16 hs17 hs18 hs19)) ?_
    exact b118 (hG)
  have b0 : ∀ {x0 : Int32} {G : jm_H}, jE H0 G → jz (jE H0) jz_k (fun Q => jm_w S 1 167 0 [.int x0] [] G Q) := by
    intro x0 G hG
    have st := True.intro
    refine jz_eq (fun _ => u167_0) ?_
    exact b1 (hG)
  refine jz_eq (fun _ => en167) ?_
  exact b0 (hG)
theorem i400le {n : Nat} (hn : n ≤ 401) : ((400 : Int32) < nI n) = (400 < n) := propext (nI_ltI (a := 400) (by decide) (by omega))
theorem l161 {G0 : jm_H} {z : Nat} (hz : z ≤ 2000) : ∀ (d n i : Nat), z + 402 ≤ i + n + d → i ≤ z → n ≤ 401 → ∀ {w2 w3 w4 w6 w7 : Value} {G : jm_H}, jC G0 z n G → jz (jCE G0) jz_0 (fun Q => jm_w S 3 161 7 [.ref 180, .int (nI i), w2, w3, w4, .null, w6, w7] [] G Q)
  | 0, n, i, hd, hi, hn, w2, w3, w4, w6, w7, G, hG => by omega
  | d + 1, n, i, hd, hi, hn, w2, w3, w4, w6, w7, G, hG => by
    have st := jY_st hG.1
    have t0 := st_t180 st
    have en := hG.2.2.1
    have ez := hG.2.1
    refine jz_eq (fun _ => u161_7 t0) ?_
    rw [en]
    refine jz_if (fun c => ?_) (fun c => ?_)
    · rw [i400le hn] at c
      refine jz_eq (fun _ => u161_286) (jz_end ⟨hG.1, n, en, by omega, hn, Or.inl (by omega), fun k hk q => absurd q (hG.2.2.2.1 k hk), hG.2.2.2.2⟩ rfl)
    rw [i400le hn] at c
    have hn4 : n ≤ 400 := by omega
    refine jz_eq (fun _ => (u161_17 t0).trans (c162 st hz (by omega) ez)) ?_
    refine jz_eq (fun _ => u161_22 t0) ?_
    rw [ez]
    refine jz_if (fun cz => ?_) (fun _ => ?_)
    rotate_left
    · refine jz_eq (fun _ => (u161_31 t0).trans (c163 st (by omega) en)) ?_
      exact jz_eq (fun _ => u161_42) (jz_end (jCE_tok hG hn4) rfl)
    have hiz : i < z := (nI_ltI (by omega) (by omega)).mp cz
    generalize jc_b G z i = x
    -- behind a token: on
    have next : ∀ {j : Nat} {G : jm_H} {x2 : Int32} {w3 w4 w6 w7 : Value}, jC G0 z (n + 1) G → i ≤ j → j ≤ z → jz (jCE G0) jz_0 (fun Q => jm_w S 3 161 283 [.ref 180, .int (nI j), .int x2, w3, w4, .null, w6, w7] [] G Q) := by
      intro j G x2 w3 w4 w6 w7 hG h1 h2
      exact jz_eq (fun _ => u161_283) (l161 hz d (n + 1) j (by omega) h2 (by omega) hG)
    -- a name
    have h178 : ∀ {m : Nat} {x2 x6 : Int32} {y4 : Int64} {w7 : Value}, i + m ≤ z → x6 ≠ 0 → jz (jCE G0) jz_0 (fun Q => jm_w S 3 161 178 [.ref 180, .int (nI i), .int x2, .int (nI m), .long y4, .null, .int x6, w7] [] G Q) := by
      intro m x2 x6 y4 w7 hm h6
      refine jz_eq (fun _ => (u161_178 t0).trans (c163 st (by omega) en)) ?_
      refine jz_eq (fun _ => u161_188) ?_
      rw [nI_addN]
      exact next (jC_tok hG h6 (fun _ => by decide)) (by omega) hm
    have h146 : ∀ (e j m : Nat) {x2 x6 : Int32} {y4 : Int64}, j + e = 4 → i + m ≤ z → x6 ≠ 0 → jz (jCE G0) jz_0 (fun Q => jm_w S 3 161 146 [.ref 180, .int (nI i), .int x2, .int (nI m), .long y4, .null, .int x6, .int (nI j)] [] G Q) := by
      intro e
      induction e with
      | zero =>
        intro j m x2 x6 y4 he hm h6
        exact jz_eq (fun _ => u161_146) (jz_if (fun _ => h178 hm h6) (fun c => absurd (show (4 : Int32) ≤ nI j from (nI_leI (a := 4) (by decide) (by omega)).mpr (by omega)) c))
      | succ e ih =>
        intro j m x2 x6 y4 he hm h6
        refine jz_eq (fun _ => u161_146) (jz_if (fun _ => h178 hm h6) (fun _ => ?_))
        have r9 := st_r180_9 st
        have h172 : ∀ {x6 : Int32}, x6 ≠ 0 → jz (jCE G0) jz_0 (fun Q => jm_w S 3 161 172 [.ref 180, .int (nI i), .int x2, .int (nI m), .long y4, .null, .int x6, .int (nI j)] [] G Q) := by
          intro x6 h6
          refine jz_eq (fun _ => u161_172) ?_
          rw [nI_succK]
          exact ih (j + 1) m (by omega) hm h6
        refine jz_eq (fun _ => u161_152 t0 (by rw [r9]; decide) (by rw [r9, st_l187 st]; exact nI_inK (by omega) (by decide)) (by rw [r9]; exact st_t187 st)) (jz_if (fun _ => h172 h6) (fun _ => ?_))
        refine jz_eq (fun _ => u161_165) ?_
        rw [show (20 : Int32) = nI 20 from rfl, nI_addN]
        exact h172 (fun q => by have := (nI_eqI (b := 0) (by omega) (by decide)).mp q; omega)
    have h135 : ∀ {m : Nat} {x2 p0 : Int32} {y4 : Int64} {w6 w7 : Value}, i + m ≤ z → p0 ≠ 0 → jz (jCE G0) jz_0 (fun Q => jm_w S 3 161 135 [.ref 180, .int (nI i), .int x2, .int (nI m), .long y4, .null, w6, w7] [.int p0] G Q) := by
      intro m x2 p0 y4 w6 w7 hm h6
      refine jz_eq (fun _ => u161_135) (jz_if (fun _ => h178 hm h6) (fun _ => ?_))
      exact jz_eq (fun _ => u161_143) (h146 4 0 m (by decide) hm h6)
    have h85 : ∀ (e m : Nat) {x2 : Int32} {y4 : Int64} {w6 w7 : Value}, i + m + e = z → jz (jCE G0) jz_0 (fun Q => jm_w S 3 161 85 [.ref 180, .int (nI i), .int x2, .int (nI m), .long y4, .null, w6, w7] [] G Q) := by
      intro e
      induction e with
      | zero =>
        intro m x2 y4 w6 w7 he
        refine jz_eq (fun _ => u161_85 t0) ?_
        rw [nI_addN]
        refine jz_eq (fun _ => c162 st hz (by omega) ez) ?_
        refine jz_eq (fun _ => u161_92) (jz_call p164 (fun v G1 e hv => ?_))
        obtain rfl := e
        rcases hv with rfl | ⟨rfl, hx⟩
        · refine jz_eq (fun _ => u161_95) (jz_if (fun _ => ?_) (fun c => absurd rfl c))
          refine jz_eq (fun _ => u161_124) (jz_if (fun _ => ?_) (fun _ => ?_))
          · exact jz_eq (fun _ => u161_134) (h135 (by omega) (by decide))
          · exact jz_eq (fun _ => u161_130) (h135 (by omega) (by decide))
        · exact absurd (by unfold jc_b; rw [if_pos (by omega)]) hx
      | succ e ih =>
        intro m x2 y4 w6 w7 he
        refine jz_eq (fun _ => u161_85 t0) ?_
        rw [nI_addN]
        refine jz_eq (fun _ => c162 st hz (by omega) ez) ?_
        refine jz_eq (fun _ => u161_92) (jz_call p164 (fun v G1 e hv => ?_))
        obtain rfl := e
        rcases hv with rfl | ⟨rfl, hx⟩
        · refine jz_eq (fun _ => u161_95) (jz_if (fun _ => ?_) (fun c => absurd rfl c))
          refine jz_eq (fun _ => u161_124) (jz_if (fun _ => ?_) (fun _ => ?_))
          · exact jz_eq (fun _ => u161_134) (h135 (by omega) (by decide))
          · exact jz_eq (fun _ => u161_130) (h135 (by omega) (by decide))
        · refine jz_eq (fun _ => u161_95) (jz_if (fun c => absurd c (by decide)) (fun _ => ?_))
          have h118 : ∀ {y4 : Int64}, jz (jCE G0) jz_0 (fun Q => jm_w S 3 161 118 [.ref 180, .int (nI i), .int x2, .int (nI m), .long y4, .null, w6, w7] [] G1 Q) := by
            intro y4
            refine jz_eq (fun _ => u161_118) ?_
            rw [nI_succK]
            exact ih (m + 1) (by omega)
          refine jz_eq (fun _ => u161_98) (jz_if (fun _ => h118) (fun _ => ?_))
          refine jz_eq (fun _ => u161_104 t0) ?_
          rw [nI_addN]
          refine jz_eq (fun _ => c162 st hz (by omega) ez) ?_
          refine jz_eq (fun _ => u161_113) (jz_call (p156 rfl) (fun v G1 e hv => ?_))
          obtain rfl := e
          obtain ⟨q, rfl⟩ := hv
          exact jz_eq (fun _ => u161_116) h118
    -- a number
    have h249 : ∀ {m V : Nat} {x2 : Int32} {w6 w7 : Value}, i + m ≤ z → V < 10 ^ min m 4 → jz (jCE G0) jz_0 (fun Q => jm_w S 3 161 249 [.ref 180, .int (nI i), .int x2, .int (nI m), .int (nI V), .null, w6, w7] [] G Q) := by
      intro m V x2 w6 w7 hm hV
      have hV4 : V < 10000 := Nat.lt_of_lt_of_le hV (Nat.pow_le_pow_right (by decide) (Nat.min_le_right m 4))
      have h260 : ∀ {p1 : Int32}, p1 ≠ 0 → jz (jCE G0) jz_0 (fun Q => jm_w S 3 161 260 [.ref 180, .int (nI i), .int x2, .int (nI m), .int (nI V), .null, w6, w7] [.int p1, .ref 180] G Q) := by
        intro p1 h1
        refine jz_eq (fun _ => (u161_260 t0).trans (c163 st (by omega) en)) ?_
        refine jz_eq (fun _ => u161_267) ?_
        rw [nI_addN]
        exact next (jC_tok hG h1 (fun _ => by rw [nI_toInt (by omega)]; omega)) (by omega) hm
      refine jz_eq (fun _ => u161_249) (jz_if (fun _ => ?_) (fun _ => ?_))
      · exact jz_eq (fun _ => u161_259) (h260 (by decide))
      · exact jz_eq (fun _ => u161_255) (h260 (by decide))
    have h207 : ∀ (e m V : Nat) {x2 : Int32} {w6 w7 : Value}, i + m + e = z → V < 10 ^ min m 4 → jz (jCE G0) jz_0 (fun Q => jm_w S 3 161 207 [.ref 180, .int (nI i), .int x2, .int (nI m), .int (nI V), .null, w6, w7] [] G Q) := by
      intro e
      induction e with
      | zero =>
        intro m V x2 w6 w7 he hV
        refine jz_eq (fun _ => u161_207 t0) ?_
        rw [nI_addN]
        refine jz_eq (fun _ => c162 st hz (by omega) ez) ?_
        refine jz_eq (fun _ => u161_214) (jz_call p165 (fun v G1 e hv => ?_))
        obtain rfl := e
        rcases hv with rfl | ⟨rfl, hx, hx2⟩
        · exact jz_eq (fun _ => u161_217) (jz_if (fun _ => h249 (by omega) hV) (fun c => absurd rfl c))
        · unfold jc_b at hx
          rw [if_pos (by omega), i32_0] at hx
          omega
      | succ e ih =>
        intro m V x2 w6 w7 he hV
        refine jz_eq (fun _ => u161_207 t0) ?_
        rw [nI_addN]
        refine jz_eq (fun _ => c162 st hz (by omega) ez) ?_
        refine jz_eq (fun _ => u161_214) (jz_call p165 (fun v G1 e hv => ?_))
        obtain rfl := e
        rcases hv with rfl | ⟨rfl, hx, hx2⟩
        · exact jz_eq (fun _ => u161_217) (jz_if (fun _ => h249 (by omega) hV) (fun c => absurd rfl c))
        · refine jz_eq (fun _ => u161_217) (jz_if (fun c => absurd c (by decide)) (fun _ => ?_))
          have h243 : ∀ {V : Nat}, V < 10 ^ min (m + 1) 4 → jz (jCE G0) jz_0 (fun Q => jm_w S 3 161 243 [.ref 180, .int (nI i), .int x2, .int (nI m), .int (nI V), .null, w6, w7] [] G1 Q) := by
            intro V hV
            refine jz_eq (fun _ => u161_243) ?_
            rw [nI_succK]
            exact ih (m + 1) V (by omega) hV
          refine jz_eq (fun _ => u161_220) (jz_if (fun c4 => ?_) (fun c4 => ?_))
          · refine h243 (Nat.lt_of_lt_of_le hV (Nat.pow_le_pow_right (by decide) (by omega)))
          · have hm4 : m < 4 := by
              have : ¬ 4 ≤ m := fun q => c4 (show (4 : Int32) ≤ nI m from (nI_leI (a := 4) (by decide) (by omega)).mpr q)
              omega
            refine jz_eq (fun _ => u161_225 t0) ?_
            rw [nI_addN]
            refine jz_eq (fun _ => c162 st hz (by omega) ez) ?_
            obtain ⟨D, hD, eD⟩ := ji_nn (k := 58) (x := jc_b G1 z (i + m)) (by omega) (by omega)
            rw [eD, nI_toInt (by omega)] at hx
            refine jz_eq (fun _ => u161_237) ?_
            have hV2 : V < 10 ^ m := by rw [Nat.min_eq_left (by omega)] at hV; exact hV
            have hp : 10 ^ (m + 1) = 10 * 10 ^ m := by rw [Nat.pow_succ, Nat.mul_comm]
            have hp2 : 10 ^ m ≤ 10 ^ 3 := Nat.pow_le_pow_right (by decide) (by omega)
            have e10 : (10 : Int32) * nI V + nI D - 48 = nI (10 * V + D - 48) := by
              rw [show (10 : Int32) = jI 10 from by decide, show (48 : Int32) = jI 48 from by decide, jI_n V, jI_n D, jI_mul, jI_add, jI_sub, jI_n, show ((10 * V + D - 48 : Nat) : Int) = 10 * (V : Int) + D - 48 by omega]
            rw [eD, e10]
            refine h243 ?_
            rw [Nat.min_eq_left (by omega)]
            omega
    -- a sign
    have h274 : ∀ {w3 w4 w6 w7 : Value}, jz (jCE G0) jz_0 (fun Q => jm_w S 3 161 274 [.ref 180, .int (nI i), .int x, w3, w4, .null, w6, w7] [] G Q) := by
      intro w3 w4 w6 w7
      refine jz_eq (fun _ => (u161_274 t0).trans (en166.trans u166_0)) (jz_call (p167 rfl) (fun v G1 e hv => ?_))
      obtain rfl := e
      obtain ⟨k, rfl, hk, hk2⟩ := hv
      refine jz_eq (fun _ => (u166_5 t0).trans (c163 st (by omega) en)) ?_
      refine jz_eq (fun _ => u166_11) ?_
      refine jz_eq (fun _ => u161_281) ?_
      rw [nI_succK]
      exact next (jC_tok hG hk (fun q => absurd q hk2)) (by omega) (by omega)
    have h67 : ∀ {w3 w4 w6 w7 : Value}, jz (jCE G0) jz_0 (fun Q => jm_w S 3 161 67 [.ref 180, .int (nI i), .int x, w3, w4, .null, w6, w7] [] G Q) := by
      intro w3 w4 w6 w7
      refine jz_eq (fun _ => u161_67) ?_
      rw [nI_succK]
      exact jz_eq (fun _ => u161_283) (l161 hz d n (i + 1) (by omega) (by omega) hn hG)
    refine jz_eq (fun _ => u161_43) (jz_if (fun _ => h67) (fun _ => ?_))
    refine jz_eq (fun _ => u161_49) (jz_if (fun _ => h67) (fun _ => ?_))
    refine jz_eq (fun _ => u161_55) (jz_if (fun _ => h67) (fun _ => ?_))
    refine jz_eq (fun _ => u161_61) (jz_if (fun _ => ?_) (fun _ => h67))
    refine jz_eq (fun _ => u161_73) (jz_call p164 (fun v G1 e hv => ?_))
    obtain rfl := e
    have h195 : jz (jCE G0) jz_0 (fun Q => jm_w S 3 161 195 [.ref 180, .int (nI i), .int x, w3, w4, .null, w6, w7] [] G1 Q) := by
      refine jz_eq (fun _ => u161_195) (jz_call p165 (fun v G1 e hv => ?_))
      obtain rfl := e
      rcases hv with rfl | ⟨rfl, -, -⟩
      · exact jz_eq (fun _ => u161_199) (jz_if (fun _ => h274) (fun c => absurd rfl c))
      · refine jz_eq (fun _ => u161_199) (jz_if (fun c => absurd c (by decide)) (fun _ => ?_))
        exact jz_eq (fun _ => u161_202) (h207 (z - i) 0 0 (by omega) (by decide))
    rcases hv with rfl | ⟨rfl, -⟩
    · exact jz_eq (fun _ => u161_77) (jz_if (fun _ => h195) (fun c => absurd rfl c))
    · refine jz_eq (fun _ => u161_77) (jz_if (fun c => absurd c (by decide)) (fun _ => ?_))
      exact jz_eq (fun _ => u161_80) (h85 (z - i) 0 (by omega))
theorem z161 {G0 G : jm_H} {z : Nat} (hz : z ≤ 2000) (hG : jY G0 G) (ez : jm_I G 180 4 = nI z) : jz (jCE G0) jz_0 (fun Q => jm_c S 161 [.ref 180] G Q) := by
  refine jz_eq (fun _ => en161.trans (u161_0 (st_t180 (jY_st hG)))) ?_
  exact l161 (S := S) hz (z + 402) 0 0 (by omega) (by omega) (by omega) ⟨jY_pI hG (by omega), by rw [jm_I_pI, if_neg (by decide)]; exact ez, by rw [jm_I_pI, if_pos ⟨rfl, rfl⟩]; rfl, fun k hk => absurd hk (Nat.not_lt_zero _), fun k hk => absurd hk (Nat.not_lt_zero _)⟩
end CUT
