set_option maxRecDepth 20000
/-! the class's calls: each comes to an end, within the bounds -/
theorem jk_txt {H0 G : jm_H} (h : jK H0 G) : ∃ T F : Nat, (T = 7 ∨ T = 177) ∧ (F = 7 ∨ F = 177) ∧ jm_R G 2 13 = T ∧ jm_R G 3 2 = F := by
  rcases h.1.2.1 with ⟨a, b⟩ | ⟨a, b⟩
  · exact ⟨177, 7, Or.inr rfl, Or.inl rfl, a, b⟩
  · exact ⟨7, 177, Or.inl rfl, Or.inr rfl, a, b⟩
theorem jk_sz {H0 G : jm_H} (h : jK H0 G) : ∃ N W : Nat, 3 ≤ N ∧ N ≤ 12 ∧ W ≤ 2 ∧ jm_I G 31 1 = nI N ∧ jm_I G 31 2 = nI W := by
  have h1 := ((h.1.2.2 31 1).1 js_S_31).1 rfl
  have h2 := ((h.1.2.2 31 2).1 js_S_31).2 rfl
  obtain ⟨N, hN, e1⟩ := ji_nn (k := 13) (x := jm_I G 31 1) (by omega) (by omega)
  obtain ⟨W, hW, e2⟩ := ji_nn (k := 3) h2.1 (by omega)
  rw [e1, nI_toInt (by omega)] at h1
  exact ⟨N, W, by omega, by omega, by omega, e1, e2⟩
theorem js_U_32 : js_U 32 := Or.inl rfl
theorem jK_j {P : Nat → Prop} {H0 G G' : jm_H} (h : jK H0 G) (f : jf_fr P G G') (hP : ∀ r, P r → (11 ≤ r ∧ r ≤ 30) ∨ r = 175 ∨ r = 176) : jK H0 G' := jK_fr h f (fun r g => jno_r (hP r g))
/-- slot by slot -/
theorem sl_ck : (jm_fl.contains (156, 6, 0) && jm_fl.contains (162, 6, 0) && jm_fl.contains (168, 6, 0) && jm_rl.contains (155, 0, 156) && jm_rl.contains (155, 1, 162) && jm_rl.contains (155, 2, 168) && jm_rl.contains (156, 0, 157) && jm_rl.contains (162, 0, 163) && jm_rl.contains (168, 0, 169) && jm_rl.contains (156, 1, 160) && jm_rl.contains (162, 1, 166) && jm_rl.contains (168, 1, 172)) = true := by decide +kernel
theorem sl_at {s : Nat} {G : jm_H} (hs : s < 3) (st : jm_st G) : jm_tg G (156 + 6 * s) = 6 ∧ jm_R G 155 s = 156 + 6 * s ∧ jm_R G (156 + 6 * s) 0 = 157 + 6 * s ∧ jm_R G (156 + 6 * s) 1 = 160 + 6 * s := by
  have g := sl_ck
  simp only [Bool.and_eq_true, List.contains_iff_mem] at g
  obtain ⟨⟨⟨⟨⟨⟨⟨⟨⟨⟨⟨a1, a2⟩, a3⟩, b1⟩, b2⟩, b3⟩, c1⟩, c2⟩, c3⟩, d1⟩, d2⟩, d3⟩ := g
  match s, hs with
  | 0, _ => exact ⟨(st.1 _ a1).1, st.2.1 _ b1, st.2.1 _ c1, st.2.1 _ d1⟩
  | 1, _ => exact ⟨(st.1 _ a2).1, st.2.1 _ b2, st.2.1 _ c2, st.2.1 _ d2⟩
  | 2, _ => exact ⟨(st.1 _ a3).1, st.2.1 _ b3, st.2.1 _ c3, st.2.1 _ d3⟩
theorem sl_js {s : Nat} (hs : s < 3) : js_S (157 + 6 * s) := by unfold js_S; omega
theorem sl_jt {s : Nat} (hs : s < 3) : js_t (160 + 6 * s) (161 + 6 * s) := by unfold js_t; omega
theorem sl_no {s : Nat} (hs : s < 3) : jv_no (156 + 6 * s) := by unfold jv_no js_S js_U; omega
theorem jv_2f {k : Nat} {v : Int32} (h1 : k ≠ 14) (h2 : k ≠ 15) : jv 2 k v := jv_2 (fun h => absurd h h1) (fun h => absurd h h2)
theorem jv_15 {v : Int32} (h : 0 ≤ v.toInt ∧ v.toInt ≤ 40) : jv 2 15 v := jv_2 (fun h => absurd h (by decide)) (fun _ => h)
theorem jv_4 {v : Int32} (h : 0 ≤ v.toInt ∧ v.toInt ≤ 2000) : jv 4 1 v := jv_t js_t4 (fun _ => h)
theorem rl_no : ∀ q ∈ jm_rl, ¬ (q.1 = 2 ∧ q.2.1 = 13) ∧ ¬ (q.1 = 3 ∧ q.2.1 = 2) := by decide +kernel
theorem sw149 {x : Int32} (h0 : ¬ x = 0) (h1 : ¬ x = 1) (h2 : ¬ x = 2) (h3 : ¬ x = 3) (h4 : ¬ x = 4) (h5 : ¬ x = 5) (h6 : ¬ x = 6) (h7 : ¬ x = 7) (h8 : ¬ x = 8) (h9 : ¬ x = 9) (h10 : ¬ x = 10) : x.toInt < 0 ∨ 10 < x.toInt := by
  rcases Int.lt_or_le x.toInt 0 with g | g
  · exact Or.inl g
  · rcases Int.lt_or_le 10 x.toInt with g2 | g2
    · exact Or.inr g2
    · obtain ⟨m, hm, rfl⟩ := ji_nn (k := 11) g (by omega)
      exfalso
      match m, hm with
      | 0, _ => exact h0 rfl
      | 1, _ => exact h1 rfl
      | 2, _ => exact h2 rfl
      | 3, _ => exact h3 rfl
      | 4, _ => exact h4 rfl
      | 5, _ => exact h5 rfl
      | 6, _ => exact h6 rfl
      | 7, _ => exact h7 rfl
      | 8, _ => exact h8 rfl
      | 9, _ => exact h9 rfl
      | 10, _ => exact h10 rfl
section CALLS
variable {S : Option (Nat × (Nat → Int32))} {H0 : jm_H}
theorem z96j {p q : Nat} (hp : js_S p) (hq : js_S q) {G : jm_H} (hG : jK H0 G) : jz (jK H0) jz_0 (fun Q => jm_c S 96 [.ref p, .ref q] G Q) := jz_mono (z96 hp hq (jK2_of hG)) (fun _ h => h.1) (fun _ h => h)
theorem z43j {T N W : Nat} (hT : T = 7 ∨ T = 177) (h1 : 3 ≤ N) (h2 : N ≤ 12) (hw : W ≤ 2) {G : jm_H} (hG : jK H0 G) (e1 : jm_I G 31 1 = nI N) (e2 : jm_I G 31 2 = nI W) : jz (jK H0) jz_0 (fun Q => jm_c S 43 [.ref 10, .ref T, .int (jm_I G 31 1), .int (jm_I G 31 2), .ref 174] G Q) := by
  rw [e1, e2]
  exact z43 hT h1 h2 hw hG
theorem z41l {r1 : Nat} : ∀ (d i : Nat), i + d = 3 → ∀ {G : jm_H}, jK H0 G → jz (jK H0) jz_0 (fun Q => jm_w S 2 41 69 [.ref 2, .ref r1, .int (nI i)] [] G Q)
  | 0, i, hd, G, hG => by
    have st := hG.1.1
    have r := st_r2_9 st
    refine jz_eq (fun _ => u41_69 (st_t2 st) (by rw [r]; decide) (by rw [r]; decide) (by rw [r, st_t155 st]; decide)) ?_
    rw [r, st_l155 st]
    exact jz_if (fun _ => jz_eq (fun _ => u41_94) (jz_end hG rfl)) (fun c => absurd (show Int32.ofNat 3 ≤ nI i from (nI_leI (a := 3) (by decide) (by omega)).mpr (by omega)) c)
  | d + 1, i, hd, G, hG => by
    have st := hG.1.1
    have r := st_r2_9 st
    obtain ⟨q1, q2, q3, q4⟩ := sl_at (s := i) (by omega) st
    refine jz_eq (fun _ => u41_69 (st_t2 st) (by rw [r]; decide) (by rw [r]; decide) (by rw [r, st_t155 st]; decide)) ?_
    rw [r, st_l155 st]
    refine jz_if (fun _ => jz_eq (fun _ => u41_94) (jz_end hG rfl)) (fun _ => ?_)
    refine jz_eq (fun _ => u41_78 (st_t2 st) (by rw [r]; decide) (by rw [r, st_l155 st]; exact nI_inK (by omega) (by decide)) (by rw [r]; exact Or.inr (st_t155 st)) (by rw [r, nI_cl (by omega), q2]; omega) (by rw [r, nI_cl (by omega), q2]; exact q1)) ?_
    rw [r, nI_cl (by omega), q2, nI_succK]
    exact z41l d (i + 1) (by omega) (jK_pI hG (by omega) (jv_free (sl_no (by omega))))
theorem z41 {G : jm_H} (hG : jK H0 G) (s1 : ∀ t, jm_R G 3 2 = t → 3 ≤ (jm_I G t 4).toInt ∧ (jm_I G t 4).toInt ≤ 12 ∧ 0 ≤ (jm_I G t 5).toInt ∧ (jm_I G t 5).toInt ≤ 2) : jz (jK H0) jz_0 (fun Q => jm_c S 41 [.ref 2] G Q) := by
  have st := hG.1.1
  obtain ⟨T, F, hT, hF, eT, eF⟩ := jk_txt hG
  obtain ⟨s4, s5, s6, s7⟩ := s1 F eF
  have tF := (tx_at hF st).1
  have r1 := st_r2_1 st
  have r7 := st_r2_7 st
  have r0 := st_r31_0 st
  have hne : T ≠ F := by
    rcases hG.1.2.1 with ⟨a, b⟩ | ⟨a, b⟩
    · rw [a] at eT; rw [b] at eF; omega
    · rw [a] at eT; rw [b] at eF; omega
  let G2 : jm_H := jm_pR (jm_pR G 2 13 F) 3 2 T
  have k2 : jK H0 G2 := by
    refine ⟨⟨⟨hG.1.1.1, fun q hq => ?_, hG.1.1.2.2⟩, ?_, hG.1.2.2⟩, ⟨hG.2.1, hG.2.2.1, hG.2.2.2.1, fun r hr => ⟨(hG.2.2.2.2 r hr).1, (hG.2.2.2.2 r hr).2.1, ?_⟩⟩⟩
    · have hk := rl_no q hq
      show jm_R (jm_pR (jm_pR G 2 13 F) 3 2 T) q.1 q.2.1 = q.2.2
      rw [jm_R_pR, if_neg hk.2, jm_R_pR, if_neg hk.1]
      exact hG.1.1.2.1 q hq
    · unfold jk_T
      have a : jm_R G2 2 13 = F := by
        show jm_R (jm_pR (jm_pR G 2 13 F) 3 2 T) 2 13 = F
        rw [jm_R_pR, if_neg (by decide), jm_R_pR, if_pos ⟨rfl, rfl⟩]
      have b : jm_R G2 3 2 = T := by
        show jm_R (jm_pR (jm_pR G 2 13 F) 3 2 T) 3 2 = T
        rw [jm_R_pR, if_pos ⟨rfl, rfl⟩]
      rw [a, b]
      omega
    · rw [← (hG.2.2.2.2 r hr).2.2]
      funext k
      show jm_R (jm_pR (jm_pR G 2 13 F) 3 2 T) r k = jm_R G r k
      rw [jm_R_pR, if_neg (by omega), jm_R_pR, if_neg (by omega)]
  have st2 := k2.1.1
  have k3 : jK H0 (jm_pI G2 31 1 (jm_I G2 F 4)) := jK_pI k2 (by decide) (jv_S js_S_31 (fun _ => ⟨s4, s5⟩) (fun h => absurd h (by decide)))
  have e5 : jm_I (jm_pI G2 31 1 (jm_I G2 F 4)) F 5 = jm_I G F 5 := by rw [jm_I_pI, if_neg (by omega)]; rfl
  have k4 : jK H0 (jm_pI (jm_pI G2 31 1 (jm_I G2 F 4)) 31 2 (jm_I (jm_pI G2 31 1 (jm_I G2 F 4)) F 5)) := jK_pI k3 (by decide) (jv_S js_S_31 (fun h => absurd h (by decide)) (fun _ => by rw [e5]; exact ⟨s6, s7⟩))
  have hR : ∀ a b, jm_R (jm_pR (jm_pR G 2 13 F) 3 2 T) a b = if a = 3 ∧ b = 2 then T else if a = 2 ∧ b = 13 then F else jm_R G a b := fun a b => by rw [jm_R_pR, jm_R_pR]
  have h0 := @u41_0 S G
  refine jz_eq (fun _ => en41.trans (h0 (by first | exact st_t2 st | (simp only [r1, eF, eT, r7, r0, jm_R_pI, jm_R_pR, Nat.reduceEqDiff, and_true, true_and, and_false, false_and, and_self, if_true, if_false]; first | omega | exact (fun h => h) | exact st_t3 st | exact tF | exact st_t31 st | exact st_t32 st)) (by first | exact st_t2 st | (simp only [r1, eF, eT, r7, r0, jm_R_pI, jm_R_pR, Nat.reduceEqDiff, and_true, true_and, and_false, false_and, and_self, if_true, if_false]; first | omega | exact (fun h => h) | exact st_t3 st | exact tF | exact st_t31 st | exact st_t32 st)) (by first | exact st_t2 st | (simp only [r1, eF, eT, r7, r0, jm_R_pI, jm_R_pR, Nat.reduceEqDiff, and_true, true_and, and_false, false_and, and_self, if_true, if_false]; first | omega | exact (fun h => h) | exact st_t3 st | exact tF | exact st_t31 st | exact st_t32 st)) (by first | exact st_t2 st | (simp only [r1, eF, eT, r7, r0, jm_R_pI, jm_R_pR, Nat.reduceEqDiff, and_true, true_and, and_false, false_and, and_self, if_true, if_false]; first | omega | exact (fun h => h) | exact st_t3 st | exact tF | exact st_t31 st | exact st_t32 st)) (by first | exact st_t2 st | (simp only [r1, eF, eT, r7, r0, jm_R_pI, jm_R_pR, Nat.reduceEqDiff, and_true, true_and, and_false, false_and, and_self, if_true, if_false]; first | omega | exact (fun h => h) | exact st_t3 st | exact tF | exact st_t31 st | exact st_t32 st)) (by first | exact st_t2 st | (simp only [r1, eF, eT, r7, r0, jm_R_pI, jm_R_pR, Nat.reduceEqDiff, and_true, true_and, and_false, false_and, and_self, if_true, if_false]; first | omega | exact (fun h => h) | exact st_t3 st | exact tF | exact st_t31 st | exact st_t32 st)) (by first | exact st_t2 st | (simp only [r1, eF, eT, r7, r0, jm_R_pI, jm_R_pR, Nat.reduceEqDiff, and_true, true_and, and_false, false_and, and_self, if_true, if_false]; first | omega | exact (fun h => h) | exact st_t3 st | exact tF | exact st_t31 st | exact st_t32 st)) (by first | exact st_t2 st | (simp only [r1, eF, eT, r7, r0, jm_R_pI, jm_R_pR, Nat.reduceEqDiff, and_true, true_and, and_false, false_and, and_self, if_true, if_false]; first | omega | exact (fun h => h) | exact st_t3 st | exact tF | exact st_t31 st | exact st_t32 st)) (by first | exact st_t2 st | (simp only [r1, eF, eT, r7, r0, jm_R_pI, jm_R_pR, Nat.reduceEqDiff, and_true, true_and, and_false, false_and, and_self, if_true, if_false]; first | omega | exact (fun h => h) | exact st_t3 st | exact tF | exact st_t31 st | exact st_t32 st)) (by first | exact st_t2 st | (simp only [r1, eF, eT, r7, r0, jm_R_pI, jm_R_pR, Nat.reduceEqDiff, and_true, true_and, and_false, false_and, and_self, if_true, if_false]; first | omega | exact (fun h => h) | exact st_t3 st | exact tF | exact st_t31 st | exact st_t32 st)) (by first | exact st_t2 st | (simp only [r1, eF, eT, r7, r0, jm_R_pI, jm_R_pR, Nat.reduceEqDiff, and_true, true_and, and_false, false_and, and_self, if_true, if_false]; first | omega | exact (fun h => h) | exact st_t3 st | exact tF | exact st_t31 st | exact st_t32 st)) (by first | exact st_t2 st | (simp only [r1, eF, eT, r7, r0, jm_R_pI, jm_R_pR, Nat.reduceEqDiff, and_true, true_and, and_false, false_and, and_self, if_true, if_false]; first | omega | exact (fun h => h) | exact st_t3 st | exact tF | exact st_t31 st | exact st_t32 st)) (by first | exact st_t2 st | (simp only [r1, eF, eT, r7, r0, jm_R_pI, jm_R_pR, Nat.reduceEqDiff, and_true, true_and, and_false, false_and, and_self, if_true, if_false]; first | omega | exact (fun h => h) | exact st_t3 st | exact tF | exact st_t31 st | exact st_t32 st)) (by first | exact st_t2 st | (simp only [r1, eF, eT, r7, r0, jm_R_pI, jm_R_pR, Nat.reduceEqDiff, and_true, true_and, and_false, false_and, and_self, if_true, if_false]; first | omega | exact (fun h => h) | exact st_t3 st | exact tF | exact st_t31 st | exact st_t32 st)) (by first | exact st_t2 st | (simp only [r1, eF, eT, r7, r0, jm_R_pI, jm_R_pR, Nat.reduceEqDiff, and_true, true_and, and_false, false_and, and_self, if_true, if_false]; first | omega | exact (fun h => h) | exact st_t3 st | exact tF | exact st_t31 st | exact st_t32 st)) (by first | exact st_t2 st | (simp only [r1, eF, eT, r7, r0, jm_R_pI, jm_R_pR, Nat.reduceEqDiff, and_true, true_and, and_false, false_and, and_self, if_true, if_false]; first | omega | exact (fun h => h) | exact st_t3 st | exact tF | exact st_t31 st | exact st_t32 st)) (by first | exact st_t2 st | (simp only [r1, eF, eT, r7, r0, jm_R_pI, jm_R_pR, Nat.reduceEqDiff, and_true, true_and, and_false, false_and, and_self, if_true, if_false]; first | omega | exact (fun h => h) | exact st_t3 st | exact tF | exact st_t31 st | exact st_t32 st)) (by first | exact st_t2 st | (simp only [r1, eF, eT, r7, r0, jm_R_pI, jm_R_pR, Nat.reduceEqDiff, and_true, true_and, and_false, false_and, and_self, if_true, if_false]; first | omega | exact (fun h => h) | exact st_t3 st | exact tF | exact st_t31 st | exact st_t32 st)) (by first | exact st_t2 st | (simp only [r1, eF, eT, r7, r0, jm_R_pI, jm_R_pR, Nat.reduceEqDiff, and_true, true_and, and_false, false_and, and_self, if_true, if_false]; first | omega | exact (fun h => h) | exact st_t3 st | exact tF | exact st_t31 st | exact st_t32 st)) (by first | exact st_t2 st | (simp only [r1, eF, eT, r7, r0, jm_R_pI, jm_R_pR, Nat.reduceEqDiff, and_true, true_and, and_false, false_and, and_self, if_true, if_false]; first | omega | exact (fun h => h) | exact st_t3 st | exact tF | exact st_t31 st | exact st_t32 st)) (by first | exact st_t2 st | (simp only [r1, eF, eT, r7, r0, jm_R_pI, jm_R_pR, Nat.reduceEqDiff, and_true, true_and, and_false, false_and, and_self, if_true, if_false]; first | omega | exact (fun h => h) | exact st_t3 st | exact tF | exact st_t31 st | exact st_t32 st)))) ?_
  simp only [r1, eF, eT, r7, r0, jm_R_pI, jm_R_pR, Nat.reduceEqDiff, and_true, true_and, and_false, false_and, and_self, if_true, if_false, ite_true, ite_false, reduceIte]
  refine jz_call (z42 (Or.inr js_U_32) (jS_refl k4)) (fun v G5 hS hv => ?_)
  obtain rfl := hv
  have k5 := jK_S js_U_32 k4 hS
  refine jz_eq (fun _ => u41_62 (st_t2 k5.1.1)) ?_
  exact z41l (S := S) 3 0 (by decide) (jK_pI k5 (by decide) (jv_15 (by decide)))
theorem p50 {x0 : Int32} {G : jm_H} (hG : jE H0 G) : jz (jE H0) jz_I (fun Q => jm_c S 50 [.int x0] G Q) := by
  have b0 : ∀ {x0 : Int32} {G : jm_H}, jE H0 G → jz (jE H0) jz_I (fun Q => jm_w S 1 50 0 [.int x0] [] G Q) := by
    intro x0 G hG
    have st := True.intro
    refine jz_eq (fun _ => u50_0) ?_
    exact jz_end (hG) ⟨_, rfl⟩
  refine jz_eq (fun _ => en50) ?_
  exact b0 (hG)
theorem p69 {x0 x1 : Int32} {G : jm_H} (hG : jE H0 G) : jz (jE H0) jz_I (fun Q => jm_c S 69 [.int x0, .int x1] G Q) := by
  have b13 : ∀ {x0 : Int32} {x1 : Int32} {p0 : Int32} {G : jm_H}, jE H0 G → (p0 = 0 ∨ p0 = 1) → jz (jE H0) jz_I (fun Q => jm_w S 2 69 13 [.int x0, .int x1] [.int p0] G Q) := by
    intro x0 x1 p0 G hG hb
    have st := True.intro
    refine jz_eq (fun _ => u69_13 (by first | exact Or.inl rfl | exact Or.inr rfl | assumption)) ?_
    exact jz_end (hG) ⟨_, rfl⟩
  have b0 : ∀ {x0 : Int32} {x1 : Int32} {G : jm_H}, jE H0 G → jz (jE H0) jz_I (fun Q => jm_w S 2 69 0 [.int x0, .int x1] [] G Q) := by
    intro x0 x1 G hG
    have st := True.intro
    refine jz_eq (fun _ => u69_0) ?_
    refine jz_call (p50 (hG)) (fun v G hG hv => ?_)
    obtain ⟨xv, rfl⟩ := hv
    have st := True.intro
    refine jz_eq (fun _ => u69_5) ?_
    refine jz_if (fun c5 => ?_) (fun c5 => ?_)
    · have st := True.intro
      refine jz_eq (fun _ => u69_12) ?_
      exact b13 (hG) (by first | exact Or.inl rfl | exact Or.inr rfl | assumption)
    · have st := True.intro
      refine jz_eq (fun _ => u69_8) ?_
      exact b13 (hG) (by first | exact Or.inl rfl | exact Or.inr rfl | assumption)
  refine jz_eq (fun _ => en69) ?_
  exact b0 (hG)
theorem z83j {G : jm_H} (hG : jK H0 G) : jz (fun G' => jK H0 G' ∧ ∃ y, jq_is G' 27 y ∧ jq_ok y) jz_0 (fun Q => jm_c S 83 [.ref 32, .ref 27] G Q) :=
  jz_mono (z83 (Or.inr js_U_32) hG.1.1 (st_t27 hG.1.1)) (fun _ h => ⟨jK_j hG h.1 (fun r g => Or.inl (by omega)), h.2.2⟩) (fun _ h => h)
theorem z145 {x1 : Int32} {G : jm_H} (hG : jK H0 G) : jz (jK H0) jz_I (fun Q => jm_c S 145 [.ref 2, .int x1] G Q) := by
  have b12 : ∀ {x1 : Int32} {G : jm_H}, jK H0 G → jz (jK H0) jz_I (fun Q => jm_w S 3 145 12 [.ref 2, .int x1] [] G Q) := by
    intro x1 G hG
    have st := hG.1.1
    refine jz_eq (fun _ => u145_12) ?_
    exact jz_end (hG) ⟨_, rfl⟩
  have b43 : ∀ {x1 : Int32} {p0 : Int32} {G : jm_H}, jK H0 G → jz (jK H0) jz_I (fun Q => jm_w S 3 145 43 [.ref 2, .int x1] [.int p0] G Q) := by
    intro x1 p0 G hG
    have st := hG.1.1
    refine jz_eq (fun _ => u145_43) ?_
    exact jz_end (hG) ⟨_, rfl⟩
  have b0 : ∀ {x1 : Int32} {G : jm_H}, jK H0 G → jz (jK H0) jz_I (fun Q => jm_w S 3 145 0 [.ref 2, .int x1] [] G Q) := by
    intro x1 G hG
    have st := hG.1.1
    refine jz_eq (fun _ => u145_0) ?_
    refine jz_if (fun c0 => ?_) (fun c0 => ?_)
    · exact b12 (hG)
    · have st := hG.1.1
      refine jz_eq (fun _ => u145_6) ?_
      refine jz_if (fun c6 => ?_) (fun c6 => ?_)
      · have st := hG.1.1
        have e2_7 : jm_R G 2 7 = 31 := st_r2_7 st
        have e31_0 : jm_R G 31 0 = 32 := st_r31_0 st
        refine jz_eq (fun _ => u145_14 (st_t2 st) (by simp only [e2_7, e31_0]; decide) (by simp only [e2_7, e31_0]; exact st_t31 st) (by simp only [e2_7, e31_0]; decide) (by simp only [e2_7, e31_0]; exact st_t32 st)) ?_
        simp only [e2_7, e31_0]
        refine jz_if (fun c14 => ?_) (fun c14 => ?_)
        · have st := hG.1.1
          have e2_7 : jm_R G 2 7 = 31 := st_r2_7 st
          have e31_0 : jm_R G 31 0 = 32 := st_r31_0 st
          refine jz_eq (fun _ => u145_32 (st_t2 st) (by simp only [e2_7, e31_0]; decide) (by simp only [e2_7, e31_0]; exact st_t31 st) (by simp only [e2_7, e31_0]; decide) (by simp only [e2_7, e31_0]; exact st_t32 st)) ?_
          simp only [e2_7, e31_0]
          refine jz_call (jz_pu (hG) (z146 (Or.inr js_U_32) st)) (fun v G hG hv => ?_)
          obtain ⟨xv, rfl⟩ := hv
          exact b43 (hG)
        · have st := hG.1.1
          refine jz_eq (fun _ => u145_27) ?_
          exact b43 (hG)
      · exact b12 (hG)
  refine jz_eq (fun _ => en145) ?_
  exact b0 (hG)
theorem z100  {G : jm_H} (hG : jK H0 G) : jz (jK H0) jz_I (fun Q => jm_c S 100 [.ref 2] G Q) := by
  have b28 : ∀  {G : jm_H}, jK H0 G → jz (jK H0) jz_I (fun Q => jm_w S 6 100 28 [.ref 2] [] G Q) := by
    intro G hG
    have st := hG.1.1
    refine jz_eq (fun _ => u100_28 (st_t2 st)) ?_
    refine jz_call (z94 (hG)) (fun v G hG hv => ?_)
    obtain rfl := hv
    have st := hG.1.1
    have e2_7 : jm_R G 2 7 = 31 := st_r2_7 st
    have e31_0 : jm_R G 31 0 = 32 := st_r31_0 st
    refine jz_eq (fun _ => u100_32 (st_t2 st) (by simp only [e2_7, e31_0]; decide) (by simp only [e2_7, e31_0]; exact st_t31 st) (by simp only [e2_7, e31_0]; decide) (by simp only [e2_7, e31_0]; exact st_t32 st)) ?_
    simp only [e2_7, e31_0]
    refine jz_call (jz_mono (z42 (Or.inr js_U_32) (jS_refl (hG))) (fun _ f => jK_S js_U_32 (hG) f) (fun _ h => h)) (fun v G hG hv => ?_)
    obtain rfl := hv
    have st := hG.1.1
    refine jz_eq (fun _ => u100_42) ?_
    exact jz_end (hG) ⟨_, rfl⟩
  have b0 : ∀  {G : jm_H}, jK H0 G → jz (jK H0) jz_I (fun Q => jm_w S 6 100 0 [.ref 2] [] G Q) := by
    intro G hG
    have st := hG.1.1
    have e2_7 : jm_R G 2 7 = 31 := st_r2_7 st
    have e31_0 : jm_R G 31 0 = 32 := st_r31_0 st
    refine jz_eq (fun _ => u100_0 (st_t2 st) (by simp only [e2_7, e31_0]; decide) (by simp only [e2_7, e31_0]; exact st_t31 st) (by simp only [e2_7, e31_0]; decide) (by simp only [e2_7, e31_0]; exact st_t32 st)) ?_
    simp only [e2_7, e31_0]
    refine jz_if (fun c0 => ?_) (fun c0 => ?_)
    · exact b28 (hG)
    · have st := hG.1.1
      have e2_7 : jm_R G 2 7 = 31 := st_r2_7 st
      have e31_0 : jm_R G 31 0 = 32 := st_r31_0 st
      refine jz_eq (fun _ => u100_13 (st_t2 st) (by simp only [e2_7, e31_0]; decide) (by simp only [e2_7, e31_0]; exact st_t31 st) (by simp only [e2_7, e31_0]; decide) (by simp only [e2_7, e31_0]; exact st_t32 st)) ?_
      simp only [e2_7, e31_0]
      refine jz_call (jz_pu (hG) (z101 (Or.inr js_U_32) st)) (fun v G hG hv => ?_)
      obtain ⟨xv, rfl⟩ := hv
      have st := hG.1.1
      refine jz_eq (fun _ => u100_23) ?_
      refine jz_if (fun c23 => ?_) (fun c23 => ?_)
      · exact b28 (hG)
      · have st := hG.1.1
        refine jz_eq (fun _ => u100_26) ?_
        exact jz_end (hG) ⟨_, rfl⟩
  refine jz_eq (fun _ => en100) ?_
  exact b0 (hG)
theorem z103 {q : Nat} (hq : js_S q) {G : jm_H} (hG : jK H0 G) : jz (jK H0) jz_0 (fun Q => jm_c S 103 [.ref 2, .ref q] G Q) := by
  have b75 : ∀ {x2 : Int32} {G : jm_H}, jK H0 G → jz (jK H0) jz_0 (fun Q => jm_w S 8 103 75 [.ref 2, .ref q, .int x2] [] G Q) := by
    intro x2 G hG
    have st := hG.1.1
    refine jz_eq (fun _ => u103_75) ?_
    exact jz_end (hG) rfl
  have b33 : ∀ {p0 : Int32} {G : jm_H}, jK H0 G → jz (jK H0) jz_0 (fun Q => jm_w S 8 103 33 [.ref 2, .ref q, .null] [.int p0] G Q) := by
    intro p0 G hG
    have st := hG.1.1
    have e2_7 : jm_R G 2 7 = 31 := st_r2_7 st
    refine jz_eq (fun _ => u103_33 (st_t2 st) (by simp only [e2_7]; decide) (by simp only [e2_7]; exact st_t31 st)) ?_
    simp only [e2_7]
    refine jz_call (z96j js_S_31 hq (hG)) (fun v G hG hv => ?_)
    obtain rfl := hv
    have st := hG.1.1
    refine jz_eq (fun _ => u103_42) ?_
    refine jz_if (fun c42 => ?_) (fun c42 => ?_)
    · exact b75 (hG)
    · have st := hG.1.1
      obtain ⟨T, F, hT, hF, eT, eF⟩ := jk_txt hG
      obtain ⟨N, W, n1, n2, nw, e1, e2⟩ := jk_sz hG
      have e2_2 : jm_R G 2 2 = 10 := st_r2_2 st
      have e2_13 : jm_R G 2 13 = T := eT
      have e2_7 : jm_R G 2 7 = 31 := st_r2_7 st
      have e2_10 : jm_R G 2 10 = 174 := st_r2_10 st
      refine jz_eq (fun _ => u103_46 (st_t2 st) (by simp only [e2_2, e2_13, e2_7, e2_10]; decide) (by simp only [e2_2, e2_13, e2_7, e2_10]; omega) (by simp only [e2_2, e2_13, e2_7, e2_10]; decide) (by simp only [e2_2, e2_13, e2_7, e2_10]; exact st_t31 st) (by simp only [e2_2, e2_13, e2_7, e2_10]; decide) (by simp only [e2_2, e2_13, e2_7, e2_10]; exact st_t10 st)) ?_
      simp only [e2_2, e2_13, e2_7, e2_10]
      refine jz_call (z43j hT n1 n2 nw (hG) e1 e2) (fun v G hG hv => ?_)
      obtain rfl := hv
      exact b75 (hG)
  have b28 : ∀  {G : jm_H}, jK H0 G → jz (jK H0) jz_0 (fun Q => jm_w S 8 103 28 [.ref 2, .ref q, .null] [] G Q) := by
    intro G hG
    have st := hG.1.1
    refine jz_eq (fun _ => u103_28) ?_
    exact b33 (hG)
  have b0 : ∀  {G : jm_H}, jK H0 G → jz (jK H0) jz_0 (fun Q => jm_w S 8 103 0 [.ref 2, .ref q, .null] [] G Q) := by
    intro G hG
    have st := hG.1.1
    have e2_7 : jm_R G 2 7 = 31 := st_r2_7 st
    refine jz_eq (fun _ => u103_0 ((js_S_at hq st).1.1) (st_t2 st) (by simp only [e2_7]; decide) (by simp only [e2_7]; exact st_t31 st)) ?_
    simp only [e2_7]
    refine jz_if (fun c0 => ?_) (fun c0 => ?_)
    · exact b28 (hG)
    · have st := hG.1.1
      have e2_7 : jm_R G 2 7 = 31 := st_r2_7 st
      refine jz_eq (fun _ => u103_14 ((js_S_at hq st).1.1) (st_t2 st) (by simp only [e2_7]; decide) (by simp only [e2_7]; exact st_t31 st)) ?_
      simp only [e2_7]
      refine jz_if (fun c14 => ?_) (fun c14 => ?_)
      · have st := hG.1.1
        refine jz_eq (fun _ => u103_32) ?_
        exact b33 (hG)
      · exact b28 (hG)
  refine jz_eq (fun _ => en103) ?_
  exact b0 (hG)
theorem z150  {G : jm_H} (hG : jK H0 G) : jz (jK H0) jz_I (fun Q => jm_c S 150 [.ref 2] G Q) := by
  have b55 : ∀ {x1 : Int32} {x2 : Int32} {G : jm_H}, jK H0 G → jz (jK H0) jz_I (fun Q => jm_w S 3 150 55 [.ref 2, .int x1, .int x2] [] G Q) := by
    intro x1 x2 G hG
    have st := hG.1.1
    refine jz_eq (fun _ => u150_55) ?_
    exact jz_end (hG) ⟨_, rfl⟩
  have loop4 : ∀ (d : Nat) (i : Nat), ∀ {x1 : Int32} {G : jm_H}, i + d = 8 → jK H0 G → jz (jK H0) jz_I (fun Q => jm_w S 3 150 4 [.ref 2, .int x1, .int (nI i)] [] G Q) := by
    intro d
    induction d with
    | zero =>
      intro i x1 G hm hG
      have st := hG.1.1
      obtain ⟨T, F, hT, hF, eT, eF⟩ := jk_txt hG
      refine jz_eq (fun _ => u150_4 (st_t2 st) (by rw [eT]; omega) (by rw [eT]; exact (tx_at hT st).1)) (jz_if (fun _ => b55 hG) (fun _ => ?_))
      refine jz_eq (fun _ => u150_15 (st_t2 st) (by rw [st_r2_10 st]; decide) (by rw [st_r2_10 st]; decide) (by rw [st_r2_10 st, st_t174 st]; decide)) ?_
      rw [st_r2_10 st, st_l174 st]
      exact jz_if (fun _ => b55 hG) (fun c => absurd (show Int32.ofNat 8 ≤ nI i from (nI_leI (a := 8) (by decide) (by omega)).mpr (by omega)) c)
    | succ d ih =>
      intro i x1 G hm hG
      have b49 : ∀ {x1 : Int32} {G : jm_H}, jK H0 G → jz (jK H0) jz_I (fun Q => jm_w S 3 150 49 [.ref 2, .int x1, .int (nI i)] [] G Q) := by
        intro x1 G hG
        have st := hG.1.1
        refine jz_eq (fun _ => u150_49) ?_
        rw [nI_succK]
        exact ih (i + 1) (by omega) (hG)
      have st := hG.1.1
      obtain ⟨T, F, hT, hF, eT, eF⟩ := jk_txt hG
      have e2_13 : jm_R G 2 13 = T := eT
      refine jz_eq (fun _ => u150_4 (st_t2 st) (by simp only [e2_13]; omega) (by simp only [e2_13]; exact (tx_at hT st).1)) ?_
      simp only [e2_13]
      refine jz_if (fun c4 => ?_) (fun c4 => ?_)
      · exact b55 (hG)
      · have st := hG.1.1
        have e2_10 : jm_R G 2 10 = 174 := st_r2_10 st
        refine jz_eq (fun _ => u150_15 (st_t2 st) (by simp only [e2_10]; decide) (by simp only [e2_10]; decide) (by simp only [e2_10, st_t174 st]; decide)) ?_
        simp only [e2_10]
        refine jz_if (fun c15 => ?_) (fun c15 => ?_)
        · exact b55 (hG)
        · have st := hG.1.1
          have e2_7 : jm_R G 2 7 = 31 := st_r2_7 st
          have e2_10 : jm_R G 2 10 = 174 := st_r2_10 st
          refine jz_eq (fun _ => u150_24 (st_t2 st) (by simp only [e2_7, e2_10]; decide) (by simp only [e2_7, e2_10]; exact st_t31 st) (by simp only [e2_7, e2_10]; decide) (by simp only [e2_10, st_l174 st]; exact nI_inK (by omega) (by decide)) (by simp only [e2_7, e2_10]; decide) (by simp only [e2_7, e2_10]; exact st_t174 st)) ?_
          simp only [e2_7, e2_10]
          refine jz_call (jz_pu (hG) (p69 rfl)) (fun v G hG hv => ?_)
          obtain ⟨xv, rfl⟩ := hv
          have st := hG.1.1
          refine jz_eq (fun _ => u150_40) ?_
          refine jz_if (fun c40 => ?_) (fun c40 => ?_)
          · exact b49 (hG)
          · have st := hG.1.1
            refine jz_eq (fun _ => u150_43) ?_
            exact b49 (hG)
  have b0 : ∀  {G : jm_H}, jK H0 G → jz (jK H0) jz_I (fun Q => jm_w S 3 150 0 [.ref 2, .null, .null] [] G Q) := by
    intro G hG
    have st := hG.1.1
    refine jz_eq (fun _ => u150_0) ?_
    exact loop4 8 0 (by omega) (hG)
  refine jz_eq (fun _ => en150) ?_
  exact b0 (hG)
theorem l151 {i : Nat} (hi : i < 8) {K : jm_H → Prop} {R : Option Value → Prop} {x1 : Int32} {G : jm_H} (st : jm_st G) (E : ∀ {x3 : Int32} {x4 : Int32}, jz K R (fun Q => jm_w S 1 151 67 [.ref 2, .int x1, .int (nI i), .int x3, .int x4] [] G Q)) : ∀ (d j : Nat), j + d = i → ∀ {x3 : Int32}, jz K R (fun Q => jm_w S 1 151 29 [.ref 2, .int x1, .int (nI i), .int x3, .int (nI j)] [] G Q)
  | 0, j, hd, x3 => jz_eq (fun _ => u151_29) (jz_if (fun _ => E) (fun c => absurd ((nI_leI (by omega) (by omega)).mpr (by omega)) c))
  | d + 1, j, hd, x3 => by
    have r10 := st_r2_10 st
    have h60 : ∀ {x3 p0 : Int32}, jz K R (fun Q => jm_w S 1 151 60 [.ref 2, .int x1, .int (nI i), .int x3, .int (nI j)] [.int p0] G Q) := by
      intro x3 p0
      refine jz_eq (fun _ => u151_60) ?_
      rw [nI_succK]
      exact l151 hi st E d (j + 1) (by omega)
    refine jz_eq (fun _ => u151_29) (jz_if (fun _ => E) (fun _ => ?_))
    refine jz_eq (fun _ => u151_35) (jz_if (fun _ => jz_eq (fun _ => u151_59) h60) (fun _ => ?_))
    refine jz_eq (fun _ => u151_39 (st_t2 st) (by rw [r10]; decide) (by rw [r10, st_l174 st]; exact nI_inK (by omega) (by decide)) (by rw [r10]; decide) (by rw [r10]; exact st_t174 st) (by rw [r10, st_l174 st]; exact nI_inK (by omega) (by decide))) (jz_if (fun _ => jz_eq (fun _ => u151_59) h60) (fun _ => jz_eq (fun _ => u151_55) h60))
theorem m151 : ∀ (d i : Nat), i + d = 8 → ∀ {x1 : Int32} {w3 w4 : Value} {G : jm_H}, jK H0 G → jz (jK H0) jz_I (fun Q => jm_w S 1 151 4 [.ref 2, .int x1, .int (nI i), w3, w4] [] G Q)
  | 0, i, hd, x1, w3, w4, G, hG => by
    have st := hG.1.1
    obtain ⟨T, F, hT, hF, eT, eF⟩ := jk_txt hG
    have h85 : jz (jK H0) jz_I (fun Q => jm_w S 1 151 85 [.ref 2, .int x1, .int (nI i), w3, w4] [] G Q) := jz_eq (fun _ => u151_85) (jz_end hG ⟨_, rfl⟩)
    refine jz_eq (fun _ => u151_4 (st_t2 st) (by rw [eT]; omega) (by rw [eT]; exact (tx_at hT st).1)) (jz_if (fun _ => h85) (fun _ => ?_))
    refine jz_eq (fun _ => u151_15 (st_t2 st) (by rw [st_r2_10 st]; decide) (by rw [st_r2_10 st]; decide) (by rw [st_r2_10 st, st_t174 st]; decide)) ?_
    rw [st_r2_10 st, st_l174 st]
    exact jz_if (fun _ => h85) (fun c => absurd (show Int32.ofNat 8 ≤ nI i from (nI_leI (a := 8) (by decide) (by omega)).mpr (by omega)) c)
  | d + 1, i, hd, x1, w3, w4, G, hG => by
    have st := hG.1.1
    obtain ⟨T, F, hT, hF, eT, eF⟩ := jk_txt hG
    have h85 : jz (jK H0) jz_I (fun Q => jm_w S 1 151 85 [.ref 2, .int x1, .int (nI i), w3, w4] [] G Q) := jz_eq (fun _ => u151_85) (jz_end hG ⟨_, rfl⟩)
    refine jz_eq (fun _ => u151_4 (st_t2 st) (by rw [eT]; omega) (by rw [eT]; exact (tx_at hT st).1)) (jz_if (fun _ => h85) (fun _ => ?_))
    refine jz_eq (fun _ => u151_15 (st_t2 st) (by rw [st_r2_10 st]; decide) (by rw [st_r2_10 st]; decide) (by rw [st_r2_10 st, st_t174 st]; decide)) (jz_if (fun _ => h85) (fun _ => ?_))
    refine jz_eq (fun _ => u151_24) ?_
    refine l151 (S := S) (i := i) (by omega) st ?_ i 0 (by omega)
    intro x3 x4
    have h77 : ∀ {p0 p1 : Int32}, jz (jK H0) jz_I (fun Q => jm_w S 1 151 77 [.ref 2, .int x1, .int (nI i), .int x3, .int x4] [.int p1, .int p0] G Q) := by
      intro p0 p1
      refine jz_eq (fun _ => u151_77) ?_
      rw [nI_succK]
      exact m151 d (i + 1) (by omega) hG
    exact jz_eq (fun _ => u151_67) (jz_if (fun _ => jz_eq (fun _ => u151_76) h77) (fun _ => jz_eq (fun _ => u151_72) h77))
theorem z151 {G : jm_H} (hG : jK H0 G) : jz (jK H0) jz_I (fun Q => jm_c S 151 [.ref 2] G Q) := jz_eq (fun _ => en151.trans u151_0) (m151 (S := S) 8 0 (by decide) hG)
theorem z152  {G : jm_H} (hG : jK H0 G) : jz (jK H0) jz_I (fun Q => jm_c S 152 [.ref 2] G Q) := by
  have b39 : ∀ {x1 : Int32} {x2 : Int32} {G : jm_H}, jK H0 G → jz (jK H0) jz_I (fun Q => jm_w S 1 152 39 [.ref 2, .int x1, .int x2] [] G Q) := by
    intro x1 x2 G hG
    have st := hG.1.1
    refine jz_eq (fun _ => u152_39) ?_
    exact jz_end (hG) ⟨_, rfl⟩
  have loop4 : ∀ (d : Nat) (i : Nat), ∀ {x1 : Int32} {G : jm_H}, i + d = 3 → jK H0 G → jz (jK H0) jz_I (fun Q => jm_w S 1 152 4 [.ref 2, .int x1, .int (nI i)] [] G Q) := by
    intro d
    induction d with
    | zero =>
      intro i x1 G hm hG
      have st := hG.1.1
      refine jz_eq (fun _ => u152_4 (st_t2 st) (by rw [st_r2_9 st]; decide) (by rw [st_r2_9 st]; decide) (by rw [st_r2_9 st, st_t155 st]; decide)) ?_
      rw [st_r2_9 st, st_l155 st]
      exact jz_if (fun _ => b39 hG) (fun c => absurd (show Int32.ofNat 3 ≤ nI i from (nI_leI (a := 3) (by decide) (by omega)).mpr (by omega)) c)
    | succ d ih =>
      intro i x1 G hm hG
      have b31 : ∀ {x1 : Int32} {p0 : Int32} {p1 : Int32} {G : jm_H}, jK H0 G → jz (jK H0) jz_I (fun Q => jm_w S 1 152 31 [.ref 2, .int x1, .int (nI i)] [.int p1, .int p0] G Q) := by
        intro x1 p0 p1 G hG
        have st := hG.1.1
        refine jz_eq (fun _ => u152_31) ?_
        rw [nI_succK]
        exact ih (i + 1) (by omega) (hG)
      have st := hG.1.1
      have e2_9 : jm_R G 2 9 = 155 := st_r2_9 st
      refine jz_eq (fun _ => u152_4 (st_t2 st) (by simp only [e2_9]; decide) (by simp only [e2_9]; decide) (by simp only [e2_9, st_t155 st]; decide)) ?_
      simp only [e2_9]
      refine jz_if (fun c4 => ?_) (fun c4 => ?_)
      · exact b39 (hG)
      · have st := hG.1.1
        have e2_9 : jm_R G 2 9 = 155 := st_r2_9 st
        refine jz_eq (fun _ => u152_13 (st_t2 st) (by simp only [e2_9]; decide) (by simp only [e2_9, st_l155 st]; exact nI_inK (by omega) (by decide)) (by simp only [e2_9]; exact Or.inr (st_t155 st)) (by simp only [e2_9]; rw [nI_cl (by omega), (sl_at (s := i) (by omega) st).2.1]; omega) (by simp only [e2_9]; rw [nI_cl (by omega), (sl_at (s := i) (by omega) st).2.1]; exact (sl_at (by omega) st).1)) ?_
        simp only [e2_9]
        refine jz_if (fun c13 => ?_) (fun c13 => ?_)
        · have st := hG.1.1
          refine jz_eq (fun _ => u152_30) ?_
          exact b31 (hG)
        · have st := hG.1.1
          refine jz_eq (fun _ => u152_26) ?_
          exact b31 (hG)
  have b0 : ∀  {G : jm_H}, jK H0 G → jz (jK H0) jz_I (fun Q => jm_w S 1 152 0 [.ref 2, .null, .null] [] G Q) := by
    intro G hG
    have st := hG.1.1
    refine jz_eq (fun _ => u152_0) ?_
    exact loop4 3 0 (by omega) (hG)
  refine jz_eq (fun _ => en152) ?_
  exact b0 (hG)
theorem z149 {x1 : Int32} {G : jm_H} (hG : jK H0 G) : jz (jK H0) jz_I (fun Q => jm_c S 149 [.ref 2, .int x1] G Q) := by
  have b112 : ∀ {x1 : Int32} {p0 : Int32} {G : jm_H}, jK H0 G → jz (jK H0) jz_I (fun Q => jm_w S 6 149 112 [.ref 2, .int x1] [.int p0] G Q) := by
    intro x1 p0 G hG
    have st := hG.1.1
    refine jz_eq (fun _ => u149_112) ?_
    exact jz_end (hG) ⟨_, rfl⟩
  have b183 : ∀ {x1 : Int32} {p0 : Int32} {G : jm_H}, jK H0 G → jz (jK H0) jz_I (fun Q => jm_w S 6 149 183 [.ref 2, .int x1] [.int p0] G Q) := by
    intro x1 p0 G hG
    have st := hG.1.1
    refine jz_eq (fun _ => u149_183) ?_
    exact jz_end (hG) ⟨_, rfl⟩
  have b167 : ∀ {x1 : Int32} {G : jm_H}, jK H0 G → jz (jK H0) jz_I (fun Q => jm_w S 6 149 167 [.ref 2, .int x1] [] G Q) := by
    intro x1 G hG
    have st := hG.1.1
    refine jz_eq (fun _ => u149_167) ?_
    exact b183 (hG)
  have b1 : ∀ {x1 : Int32} {p0 : Int32} {G : jm_H}, jK H0 G → jz (jK H0) jz_I (fun Q => jm_w S 6 149 1 [.ref 2, .int x1] [.int p0] G Q) := by
    intro x1 p0 G hG
    by_cases hs0 : p0 = (0 : Int32)
    · subst hs0
      have st := hG.1.1
      refine jz_eq (fun _ => u149_1_0) ?_
      have st := hG.1.1
      have e2_7 : jm_R G 2 7 = 31 := st_r2_7 st
      refine jz_eq (fun _ => u149_60 (st_t2 st) (by simp only [e2_7]; decide) (by simp only [e2_7]; exact st_t31 st)) ?_
      simp only [e2_7]
      exact jz_end (hG) ⟨_, rfl⟩
    by_cases hs1 : p0 = (1 : Int32)
    · subst hs1
      have st := hG.1.1
      refine jz_eq (fun _ => u149_1_1) ?_
      have st := hG.1.1
      have e2_7 : jm_R G 2 7 = 31 := st_r2_7 st
      refine jz_eq (fun _ => u149_68 (st_t2 st) (by simp only [e2_7]; decide) (by simp only [e2_7]; exact st_t31 st)) ?_
      simp only [e2_7]
      exact jz_end (hG) ⟨_, rfl⟩
    by_cases hs2 : p0 = (2 : Int32)
    · subst hs2
      have st := hG.1.1
      refine jz_eq (fun _ => u149_1_2) ?_
      have st := hG.1.1
      obtain ⟨T, F, hT, hF, eT, eF⟩ := jk_txt hG
      have e2_13 : jm_R G 2 13 = T := eT
      refine jz_eq (fun _ => u149_76 (st_t2 st) (by simp only [e2_13]; omega) (by simp only [e2_13]; exact (tx_at hT st).1)) ?_
      simp only [e2_13]
      exact jz_end (hG) ⟨_, rfl⟩
    by_cases hs3 : p0 = (3 : Int32)
    · subst hs3
      have st := hG.1.1
      refine jz_eq (fun _ => u149_1_3) ?_
      have st := hG.1.1
      have e2_7 : jm_R G 2 7 = 31 := st_r2_7 st
      have e31_0 : jm_R G 31 0 = 32 := st_r31_0 st
      refine jz_eq (fun _ => u149_84 (st_t2 st) (by simp only [e2_7, e31_0]; decide) (by simp only [e2_7, e31_0]; exact st_t31 st) (by simp only [e2_7, e31_0]; decide) (by simp only [e2_7, e31_0]; exact st_t32 st)) ?_
      simp only [e2_7, e31_0]
      refine jz_if (fun c84 => ?_) (fun c84 => ?_)
      · have st := hG.1.1
        have e2_7 : jm_R G 2 7 = 31 := st_r2_7 st
        have e31_0 : jm_R G 31 0 = 32 := st_r31_0 st
        refine jz_eq (fun _ => u149_102 (st_t2 st) (by simp only [e2_7, e31_0]; decide) (by simp only [e2_7, e31_0]; exact st_t31 st) (by simp only [e2_7, e31_0]; decide) (by simp only [e2_7, e31_0]; exact st_t32 st)) ?_
        simp only [e2_7, e31_0]
        refine jz_call (jz_pu (hG) (z101 (Or.inr js_U_32) st)) (fun v G hG hv => ?_)
        obtain ⟨xv, rfl⟩ := hv
        exact b112 (hG)
      · have st := hG.1.1
        refine jz_eq (fun _ => u149_97) ?_
        exact b112 (hG)
    by_cases hs4 : p0 = (4 : Int32)
    · subst hs4
      have st := hG.1.1
      refine jz_eq (fun _ => u149_1_4) ?_
      have st := hG.1.1
      refine jz_eq (fun _ => u149_113 (st_t2 st)) ?_
      refine jz_call (z150 (hG)) (fun v G hG hv => ?_)
      obtain ⟨xv, rfl⟩ := hv
      have st := hG.1.1
      refine jz_eq (fun _ => u149_117) ?_
      exact jz_end (hG) ⟨_, rfl⟩
    by_cases hs5 : p0 = (5 : Int32)
    · subst hs5
      have st := hG.1.1
      refine jz_eq (fun _ => u149_1_5) ?_
      have st := hG.1.1
      refine jz_eq (fun _ => u149_118 (st_t2 st)) ?_
      refine jz_call (z151 (hG)) (fun v G hG hv => ?_)
      obtain ⟨xv, rfl⟩ := hv
      have st := hG.1.1
      refine jz_eq (fun _ => u149_122) ?_
      exact jz_end (hG) ⟨_, rfl⟩
    by_cases hs6 : p0 = (6 : Int32)
    · subst hs6
      have st := hG.1.1
      refine jz_eq (fun _ => u149_1_6) ?_
      have st := hG.1.1
      have e2_0 : jm_R G 2 0 = 4 := st_r2_0 st
      refine jz_eq (fun _ => u149_123 (st_t2 st) (by simp only [e2_0]; decide) (by simp only [e2_0]; exact st_t4 st)) ?_
      simp only [e2_0]
      exact jz_end (hG) ⟨_, rfl⟩
    by_cases hs7 : p0 = (7 : Int32)
    · subst hs7
      have st := hG.1.1
      refine jz_eq (fun _ => u149_1_7) ?_
      have st := hG.1.1
      refine jz_eq (fun _ => u149_131 (st_t2 st)) ?_
      exact jz_end (hG) ⟨_, rfl⟩
    by_cases hs8 : p0 = (8 : Int32)
    · subst hs8
      have st := hG.1.1
      refine jz_eq (fun _ => u149_1_8) ?_
      have st := hG.1.1
      refine jz_eq (fun _ => u149_136 (st_t2 st)) ?_
      refine jz_call (z152 (hG)) (fun v G hG hv => ?_)
      obtain ⟨xv, rfl⟩ := hv
      have st := hG.1.1
      refine jz_eq (fun _ => u149_140) ?_
      exact jz_end (hG) ⟨_, rfl⟩
    by_cases hs9 : p0 = (9 : Int32)
    · subst hs9
      have st := hG.1.1
      refine jz_eq (fun _ => u149_1_9) ?_
      have st := hG.1.1
      have e2_7 : jm_R G 2 7 = 31 := st_r2_7 st
      have e31_0 : jm_R G 31 0 = 32 := st_r31_0 st
      refine jz_eq (fun _ => u149_141 (st_t2 st) (by simp only [e2_7, e31_0]; decide) (by simp only [e2_7, e31_0]; exact st_t31 st) (by simp only [e2_7, e31_0]; decide) (by simp only [e2_7, e31_0]; exact st_t32 st)) ?_
      simp only [e2_7, e31_0]
      refine jz_if (fun c141 => ?_) (fun c141 => ?_)
      · exact b167 (hG)
      · have st := hG.1.1
        have e2_7 : jm_R G 2 7 = 31 := st_r2_7 st
        have e31_0 : jm_R G 31 0 = 32 := st_r31_0 st
        refine jz_eq (fun _ => u149_154 (st_t2 st) (by simp only [e2_7, e31_0]; decide) (by simp only [e2_7, e31_0]; exact st_t31 st) (by simp only [e2_7, e31_0]; decide) (by simp only [e2_7, e31_0]; exact st_t32 st)) ?_
        simp only [e2_7, e31_0]
        refine jz_call (jz_pu (hG) (z101 (Or.inr js_U_32) st)) (fun v G hG hv => ?_)
        obtain ⟨xv, rfl⟩ := hv
        have st := hG.1.1
        refine jz_eq (fun _ => u149_164) ?_
        refine jz_if (fun c164 => ?_) (fun c164 => ?_)
        · have st := hG.1.1
          have e2_7 : jm_R G 2 7 = 31 := st_r2_7 st
          have e31_0 : jm_R G 31 0 = 32 := st_r31_0 st
          refine jz_eq (fun _ => u149_173 (st_t2 st) (by simp only [e2_7, e31_0]; decide) (by simp only [e2_7, e31_0]; exact st_t31 st) (by simp only [e2_7, e31_0]; decide) (by simp only [e2_7, e31_0]; exact st_t32 st)) ?_
          simp only [e2_7, e31_0]
          refine jz_call (jz_pu (hG) (z153 (Or.inr js_U_32) st)) (fun v G hG hv => ?_)
          obtain ⟨xv, rfl⟩ := hv
          exact b183 (hG)
        · exact b167 (hG)
    by_cases hs10 : p0 = (10 : Int32)
    · subst hs10
      have st := hG.1.1
      refine jz_eq (fun _ => u149_1_10) ?_
      have st := hG.1.1
      have e2_7 : jm_R G 2 7 = 31 := st_r2_7 st
      have e31_0 : jm_R G 31 0 = 32 := st_r31_0 st
      have e2_5 : jm_R G 2 5 = 27 := st_r2_5 st
      refine jz_eq (fun _ => u149_184 (st_t2 st) (by simp only [e2_7, e31_0, e2_5]; decide) (by simp only [e2_7, e31_0, e2_5]; exact st_t31 st) (by simp only [e2_7, e31_0, e2_5]; decide) (by simp only [e2_7, e31_0, e2_5]; decide) (by simp only [e2_7, e31_0, e2_5]; exact st_t32 st)) ?_
      simp only [e2_7, e31_0, e2_5]
      refine jz_call (z83j (hG)) (fun v G hG hv => ?_)
      obtain rfl := hv
      obtain ⟨hG, y, i1, o1⟩ := hG
      have st := hG.1.1
      have e2_5 : jm_R G 2 5 = 27 := st_r2_5 st
      refine jz_eq (fun _ => u149_198 (st_t2 st) (by simp only [e2_5]; decide) (by simp only [e2_5]; exact st_t27 st)) ?_
      simp only [e2_5]
      refine jz_call (jz_pu (hG) (z109 (st_t27 st) i1 o1)) (fun v G hG hv => ?_)
      obtain ⟨xv, rfl⟩ := hv
      have st := hG.1.1
      refine jz_eq (fun _ => u149_205) ?_
      exact jz_end (hG) ⟨_, rfl⟩
    have st := hG.1.1
    refine jz_eq (fun _ => u149_1_d (sw149 hs0 hs1 hs2 hs3 hs4 hs5 hs6 hs7 hs8 hs9 hs10)) ?_
    have st := hG.1.1
    refine jz_eq (fun _ => u149_206) ?_
    exact jz_end (hG) ⟨_, rfl⟩
  have b0 : ∀ {x1 : Int32} {G : jm_H}, jK H0 G → jz (jK H0) jz_I (fun Q => jm_w S 6 149 0 [.ref 2, .int x1] [] G Q) := by
    intro x1 G hG
    have st := hG.1.1
    refine jz_eq (fun _ => u149_0) ?_
    exact b1 (hG)
  refine jz_eq (fun _ => en149) ?_
  exact b0 (hG)
theorem z16 {G : jm_H} (hG : jK H0 G) : jz (jK H0) jz_I (fun Q => jm_c S 16 [.ref 2] G Q) := by
  have st := hG.1.1
  obtain ⟨T, F, hT, hF, eT, eF⟩ := jk_txt hG
  have r1 := st_r2_1 st
  refine jz_eq (fun _ => en16.trans (u16_0 (st_t2 st) (by rw [r1]; decide) (by rw [r1]; exact st_t3 st))) ?_
  rw [r1]
  refine jz_call (z17 hF ⟨hG, eF, trivial⟩) (fun v G hG1 hv => ?_)
  obtain ⟨x, rfl⟩ := hv
  have hG := hG1.1
  have hs := hG1.2.2
  have st := hG.1.1
  have r1 := st_r2_1 st
  have r0 := st_r2_0 st
  have h72 : ∀ {G : jm_H}, jK H0 G → jz (jK H0) jz_I (fun Q => jm_w S 48 16 72 [.ref 2, .int x] [] G Q) := fun hG => jz_eq (fun _ => u16_72) (jz_end hG ⟨_, rfl⟩)
  have h24 : ∀ p1 : Int32, jz (jK H0) jz_I (fun Q => jm_w S 48 16 24 [.ref 2, .int x] [.int p1, .ref 2] G Q) := by
    intro p1
    refine jz_eq (fun _ => u16_24 (st_t2 st) (st_t2 st) (by rw [r0]; decide) (by rw [r0]; exact st_t4 st)) ?_
    rw [r0]
    have k2 : jK H0 (jm_pI (jm_pI G 2 16 p1) 4 1 0) := jK_pI (jK_pI hG (by decide) (jv_2f (by decide) (by decide))) (by decide) (jv_4 (by decide))
    refine jz_if (fun _ => h72 k2) (fun _ => ?_)
    refine jz_eq (fun _ => u16_39 (st_t2 k2.1.1)) ?_
    have e4 : ∀ k, jm_I (jm_pI (jm_pI G 2 16 p1) 4 1 0) F k = jm_I G F k := fun k => by rw [jm_I_pI, if_neg (by omega), jm_I_pI, if_neg (by omega)]
    refine jz_call (z41 k2 (fun t e => ?_)) (fun v G hG hv => ?_)
    · have et : t = F := by
        rw [← e]
        show jm_R G 3 2 = F
        exact hG1.2.1
      rw [et, e4, e4]
      exact hs
    · obtain rfl := hv
      have st := hG.1.1
      obtain ⟨T, F, hT, hF, eT, eF⟩ := jk_txt hG
      obtain ⟨N, W, n1, n2, nw, e1, e2⟩ := jk_sz hG
      have r2 := st_r2_2 st
      have r7 := st_r2_7 st
      have r10 := st_r2_10 st
      refine jz_eq (fun _ => u16_43 (st_t2 st) (by rw [r2]; decide) (by rw [eT]; omega) (by rw [r7]; decide) (by rw [r7]; exact st_t31 st) (by rw [r10]; decide) (by rw [r2]; exact st_t10 st)) ?_
      rw [r2, eT, r7, r10]
      refine jz_call (z43j hT n1 n2 nw hG e1 e2) (fun v G hG hv => ?_)
      obtain rfl := hv
      exact h72 hG
  refine jz_eq (fun _ => u16_7) (jz_if (fun _ => ?_) (fun _ => ?_))
  · exact jz_eq (fun _ => u16_17 (st_t2 st) (by rw [r1]; decide) (by rw [r1]; exact st_t3 st)) (h24 _)
  · exact jz_eq (fun _ => u16_13) (h24 _)
theorem z92 {x1 x2 : Int32} {G : jm_H} (hG : jK H0 G) : jz (jK H0) jz_I (fun Q => jm_c S 92 [.ref 2, .int x1, .int x2] G Q) := by
  have st := hG.1.1
  have r7 := st_r2_7 st
  have h30 : jz (jK H0) jz_I (fun Q => jm_w S 8 92 30 [.ref 2, .int x1, .int x2] [] G Q) := jz_eq (fun _ => u92_30) (jz_end hG ⟨_, rfl⟩)
  refine jz_eq (fun _ => en92.trans u92_0) (jz_eq (fun _ => c93 x1 x2) ?_)
  by_cases hz : jr_sz x1 x2
  · rw [if_pos hz]
    refine jz_eq (fun _ => u92_5) (jz_if (fun _ => h30) (fun _ => ?_))
    have h32 : jz (jK H0) jz_I (fun Q => jm_w S 8 92 32 [.ref 2, .int x1, .int x2] [] G Q) := by
      refine jz_eq (fun _ => u92_32 (st_t2 st)) (jz_call (z94 hG) (fun v G hG hv => ?_))
      obtain rfl := hv
      have st := hG.1.1
      obtain ⟨T, F, hT, hF, eT, eF⟩ := jk_txt hG
      have r2 := st_r2_2 st
      have r7 := st_r2_7 st
      have r10 := st_r2_10 st
      have k1 : jK H0 (jm_pI G 31 1 x1) := jK_pI hG (by decide) (jv_S js_S_31 (fun _ => ⟨hz.1, hz.2.1⟩) (fun h => absurd h (by decide)))
      have k2 : jK H0 (jm_pI (jm_pI G 31 1 x1) 31 2 x2) := jK_pI k1 (by decide) (jv_S js_S_31 (fun h => absurd h (by decide)) (fun _ => ⟨hz.2.2.1, hz.2.2.2⟩))
      obtain ⟨N, W, n1, n2, nw, e1, e2⟩ := jk_sz k2
      refine jz_eq (fun _ => u92_36 (st_t2 st) (by rw [r7]; decide) (by rw [r7]; exact st_t31 st) (by rw [r2]; decide) (by rw [eT]; omega) (by rw [r10]; decide) (by rw [r2]; exact st_t10 st)) ?_
      rw [r2, eT, r7, r10]
      refine jz_call (z43j hT n1 n2 nw k2 e1 e2) (fun v G hG hv => ?_)
      obtain rfl := hv
      exact jz_eq (fun _ => u92_81) (jz_end hG ⟨_, rfl⟩)
    refine jz_eq (fun _ => u92_8 (st_t2 st) (by rw [r7]; decide) (by rw [r7]; exact st_t31 st)) (jz_if (fun _ => h32) (fun _ => ?_))
    exact jz_eq (fun _ => u92_19 (st_t2 st) (by rw [r7]; decide) (by rw [r7]; exact st_t31 st)) (jz_if (fun _ => h32) (fun _ => h30))
  · rw [if_neg hz]
    exact jz_eq (fun _ => u92_5) (jz_if (fun _ => h30) (fun c => absurd rfl c))
theorem z98 {x1 x2 x3 : Int32} {G : jm_H} (hG : jK H0 G) : jz (jK H0) jz_I (fun Q => jm_c S 98 [.ref 2, .int x1, .int x2, .int x3] G Q) := by
  have st := hG.1.1
  obtain ⟨N, W, n1, n2, nw, e1, e2⟩ := jk_sz hG
  have r7 := st_r2_7 st
  have hp := p2_12 n2
  have h42 : jz (jK H0) jz_I (fun Q => jm_w S 4 98 42 [.ref 2, .int x1, .int x2, .int x3] [] G Q) := jz_eq (fun _ => u98_42) (jz_end hG ⟨_, rfl⟩)
  refine jz_eq (fun _ => en98.trans (u98_0 (st_t2 st) (by rw [r7]; decide) (by rw [r7]; exact st_t31 st))) ?_
  rw [r7, e1, e2]
  refine jz_eq (fun _ => c99 _ _ _) ?_
  by_cases ha : jr_row (nI N) (nI W) x1
  · rw [if_pos ha]
    refine jz_eq (fun _ => u98_18) (jz_if (fun _ => h42) (fun _ => ?_))
    refine jz_eq (fun _ => u98_21 (st_t2 st) (by rw [r7]; decide) (by rw [r7]; exact st_t31 st)) ?_
    rw [r7, e1, e2]
    refine jz_eq (fun _ => c99 _ _ _) ?_
    by_cases hb : jr_row (nI N) (nI W) x2
    · rw [if_pos hb]
      refine jz_eq (fun _ => u98_39) (jz_if (fun _ => ?_) (fun _ => h42))
      obtain ⟨A, hA, rfl⟩ := jr_arg n2 ha
      obtain ⟨B, hB, rfl⟩ := jr_arg n2 hb
      refine jz_eq (fun _ => u98_44 (st_t2 st)) (jz_call (z94 hG) (fun v G hG hv => ?_))
      obtain rfl := hv
      have st := hG.1.1
      obtain ⟨N, W, n1, n2, nw, e1, e2⟩ := jk_sz hG
      have r7 := st_r2_7 st
      have r5 := st_r2_5 st
      refine jz_eq (fun _ => u98_48 (st_t2 st) (by rw [r5]; decide) (by rw [r7]; decide) (by rw [r7]; exact st_t31 st) (by rw [r5]; exact st_t27 st)) ?_
      rw [r5, r7, e1, e2]
      obtain ⟨H2, _, _, f2, q2⟩ := c68g (S := S) (st_t27 st) (st_r27_0 st) (by decide) (by decide) (st_t28 st) n1 n2 nw (A := A) (by omega)
      refine jz_eq (fun _ => q2 _) ?_
      have hG : jK H0 H2 := jK_j hG f2 (fun r g => Or.inl (by omega))
      have st := hG.1.1
      obtain ⟨N, W, n1, n2, nw, e1, e2⟩ := jk_sz hG
      have r7 := st_r2_7 st
      have r6 := st_r2_6 st
      refine jz_eq (fun _ => u98_70 (st_t2 st) (by rw [r6]; decide) (by rw [r7]; decide) (by rw [r7]; exact st_t31 st) (by rw [r6]; exact st_t29 st)) ?_
      rw [r6, r7, e1, e2]
      obtain ⟨H3, _, _, f3, q3⟩ := c68g (S := S) (st_t29 st) (st_r29_0 st) (by decide) (by decide) (st_t30 st) n1 n2 nw (A := B) (by omega)
      refine jz_eq (fun _ => q3 _) ?_
      have hG : jK H0 H3 := jK_j hG f3 (fun r g => Or.inl (by omega))
      have st := hG.1.1
      have r7 := st_r2_7 st
      have r5 := st_r2_5 st
      have r6 := st_r2_6 st
      have r0 := st_r31_0 st
      refine jz_eq (fun _ => u98_92 (st_t2 st) (by rw [r7]; decide) (by rw [r7]; exact st_t31 st) (by rw [r7, r0]; decide) (by rw [r5]; decide) (by rw [r6]; decide) (by rw [r7, r0]; exact st_t32 st)) ?_
      rw [r7, r0, r5, r6]
      refine jz_call (z80 (Or.inr js_U_32) (fun h => st_t27 h) (fun h => st_t29 h) (jS_refl hG)) (fun v G1 hS hv => ?_)
      obtain rfl := hv
      exact jz_eq (fun _ => u98_111) (jz_end (jK_S js_U_32 hG hS) ⟨_, rfl⟩)
    · rw [if_neg hb]
      exact jz_eq (fun _ => u98_39) (jz_if (fun c => absurd rfl c) (fun _ => h42))
  · rw [if_neg ha]
    exact jz_eq (fun _ => u98_18) (jz_if (fun _ => h42) (fun c => absurd rfl c))
theorem z102 {G : jm_H} (hG : jK H0 G) : jz (jK H0) jz_I (fun Q => jm_c S 102 [.ref 2] G Q) := by
  have st := hG.1.1
  obtain ⟨o, u, ho, hu, e1, e2⟩ := jk_old hG.1
  have r8 := st_r2_8 st
  refine jz_eq (fun _ => en102.trans (u102_0 (st_t2 st))) (jz_if (fun c => ?_) (fun _ => jz_eq (fun _ => u102_7) (jz_end hG ⟨_, rfl⟩)))
  rw [e2] at c
  have h0 : 0 < u := (nI_ltI (a := 0) (by decide) (by omega)).mp c
  have eu : nI u - (1 : Int32) = nI (u - 1) := by rw [show (1 : Int32) = nI 1 from rfl, jI_n, jI_n, jI_sub, jI_n, Int.ofNat_sub h0]
  refine jz_eq (fun _ => u102_9 (st_t2 st) (by rw [r8]; decide)) ?_
  have k1 : jK H0 (jm_pI G 2 15 (nI (u - 1))) := jK_pI hG (by decide) (jv_15 (by rw [nI_toInt (by omega)]; omega))
  rw [r8, e2, eu, jm_I_pI, if_neg (by decide), jm_I_pI, if_pos ⟨rfl, rfl⟩, e1, nI_addN]
  refine jz_eq (fun _ => z95 (by omega)) ?_
  have hj : (o + (u - 1)) % 40 < 40 := Nat.mod_lt _ (by decide)
  have st1 := k1.1.1
  have rp := st_past hj st1
  have c := nI_cl (k := (o + (u - 1)) % 40) (by omega)
  refine jz_eq (fun _ => u102_38 (by rw [st_l34 st1]; exact nI_inK hj (by decide)) (Or.inl (st_t34 st1)) (by rw [c, rp]; omega) (st_t2 st1)) ?_
  rw [c, rp]
  refine jz_call (z103 (js_S_past hj) k1) (fun v G hG hv => ?_)
  obtain rfl := hv
  exact jz_eq (fun _ => u102_42) (jz_end hG ⟨_, rfl⟩)
theorem z104 {x1 : Int32} {G : jm_H} (hG : jK H0 G) : jz (jK H0) jz_I (fun Q => jm_c S 104 [.ref 2, .int x1] G Q) := by
  have st := hG.1.1
  have r9 := st_r2_9 st
  have h13 : jz (jK H0) jz_I (fun Q => jm_w S 3 104 13 [.ref 2, .int x1] [] G Q) := jz_eq (fun _ => u104_13) (jz_end hG ⟨_, rfl⟩)
  refine jz_eq (fun _ => en104.trans u104_0) (jz_if (fun _ => h13) (fun c1 => ?_))
  refine jz_eq (fun _ => u104_4 (st_t2 st) (by rw [r9]; decide) (by rw [r9]; decide) (by rw [r9, st_t155 st]; decide)) ?_
  rw [r9, st_l155 st]
  refine jz_if (fun c2 => ?_) (fun _ => h13)
  obtain ⟨s, hs, rfl⟩ := ji_nn (k := 3) (ti_lt0 c1) (ti_lt (n := 3) (by decide) c2)
  have cl := nI_cl (k := s) (by omega)
  have hin : ∀ {G : jm_H}, jm_st G → ¬ (nI s < 0 ∨ jm_ln G 155 ≤ (nI s).toNatClampNeg) := fun st => by rw [st_l155 st]; exact nI_inK hs (by decide)
  obtain ⟨q1, q2, q3, q4⟩ := sl_at hs st
  have r7 := st_r2_7 st
  refine jz_eq (fun _ => u104_15 (st_t2 st) (by rw [r9]; decide) (by rw [r9]; exact hin st) (by rw [r9]; exact Or.inr (st_t155 st)) (by rw [r9, cl, q2]; omega) (by rw [r9, cl, q2]; exact q1) (by rw [r9, cl, q2, q3]; omega) (by rw [r7]; decide) (by rw [r9, cl, q2, q3]; exact (js_S_at (sl_js hs) st).1.1)) ?_
  rw [r9, cl, q2, q3, r7]
  refine jz_call (z96j (sl_js hs) js_S_31 hG) (fun v G hG hv => ?_)
  obtain rfl := hv
  have st := hG.1.1
  have r9 := st_r2_9 st
  have r0 := st_r2_0 st
  obtain ⟨q1, q2, q3, q4⟩ := sl_at hs st
  refine jz_eq (fun _ => u104_31 (st_t2 st) (by rw [r9]; decide) (by rw [r9]; exact hin st) (by rw [r9]; exact Or.inr (st_t155 st)) (by rw [r9, cl, q2]; omega) (by rw [r9, cl, q2]; exact q1) (by rw [r9, cl, q2, q4]; omega) (by rw [r0]; decide) (by rw [r9, cl, q2, q4]; exact (js_t_at (sl_jt hs) st).1)) ?_
  rw [r9, cl, q2, q4, r0]
  refine jz_call (z105 (sl_jt hs) js_t4 hG) (fun v G hG hv => ?_)
  obtain rfl := hv
  have st := hG.1.1
  have r9 := st_r2_9 st
  obtain ⟨q1, q2, q3, q4⟩ := sl_at hs st
  refine jz_eq (fun _ => u104_47 (st_t2 st) (by rw [r9]; decide) (by rw [r9]; exact hin st) (by rw [r9]; exact Or.inr (st_t155 st)) (by rw [r9, cl, q2]; omega) (by rw [r9, cl, q2]; exact q1)) ?_
  rw [r9, cl, q2]
  exact jz_end (jK_pI hG (by omega) (jv_free (sl_no hs))) ⟨_, rfl⟩
theorem z106 {x1 : Int32} {G : jm_H} (hG : jK H0 G) : jz (jK H0) jz_I (fun Q => jm_c S 106 [.ref 2, .int x1] G Q) := by
  have st := hG.1.1
  have r9 := st_r2_9 st
  have h25 : jz (jK H0) jz_I (fun Q => jm_w S 9 106 25 [.ref 2, .int x1] [] G Q) := jz_eq (fun _ => u106_25) (jz_end hG ⟨_, rfl⟩)
  refine jz_eq (fun _ => en106.trans u106_0) (jz_if (fun _ => h25) (fun c1 => ?_))
  refine jz_eq (fun _ => u106_4 (st_t2 st) (by rw [r9]; decide) (by rw [r9]; decide) (by rw [r9, st_t155 st]; decide)) ?_
  rw [r9, st_l155 st]
  refine jz_if (fun _ => h25) (fun c2 => ?_)
  obtain ⟨s, hs, rfl⟩ := ji_nn (k := 3) (ti_lt0 c1) (ti_nle (n := 3) (by decide) c2)
  have cl := nI_cl (k := s) (by omega)
  have hin : ∀ {G : jm_H}, jm_st G → ¬ (nI s < 0 ∨ jm_ln G 155 ≤ (nI s).toNatClampNeg) := fun st => by rw [st_l155 st]; exact nI_inK hs (by decide)
  obtain ⟨q1, q2, q3, q4⟩ := sl_at hs st
  refine jz_eq (fun _ => u106_13 (st_t2 st) (by rw [r9]; decide) (by rw [r9]; exact hin st) (by rw [r9]; exact Or.inr (st_t155 st)) (by rw [r9, cl, q2]; omega) (by rw [r9, cl, q2]; exact q1)) ?_
  refine jz_if (fun _ => ?_) (fun _ => h25)
  have r0 := st_r2_0 st
  refine jz_eq (fun _ => u106_27 (st_t2 st) (by rw [r0]; decide) (by rw [r9]; decide) (by rw [r9]; exact hin st) (by rw [r9]; exact Or.inr (st_t155 st)) (by rw [r9, cl, q2]; omega) (by rw [r9, cl, q2]; exact q1) (by rw [r9, cl, q2, q4]; omega) (by rw [r0]; exact st_t4 st)) ?_
  rw [r9, cl, q2, q4, r0]
  refine jz_call (z105 js_t4 (sl_jt hs) hG) (fun v G hG hv => ?_)
  obtain rfl := hv
  have st := hG.1.1
  have r9 := st_r2_9 st
  obtain ⟨q1, q2, q3, q4⟩ := sl_at hs st
  refine jz_eq (fun _ => u106_43 (st_t2 st) (by rw [r9]; decide) (by rw [r9]; exact hin st) (by rw [r9]; exact Or.inr (st_t155 st)) (by rw [r9, cl, q2]; omega) (by rw [r9, cl, q2]; exact q1) (by rw [r9, cl, q2, q3]; omega)) ?_
  rw [r9, cl, q2, q3]
  refine jz_call (z103 (sl_js hs) hG) (fun v G hG hv => ?_)
  obtain rfl := hv
  exact jz_eq (fun _ => u106_56 (st_t2 hG.1.1)) (jz_end (jK_pI hG (by decide) (jv_15 (by decide))) ⟨_, rfl⟩)
theorem z147 {x1 x2 : Int32} {G : jm_H} (hG : jK H0 G) : jz (jK H0) jz_I (fun Q => jm_c S 147 [.ref 2, .int x1, .int x2] G Q) := by
  have st := hG.1.1
  refine jz_eq (fun _ => en147.trans u147_0) (jz_eq (fun _ => c93 x1 x2) ?_)
  by_cases hz : jr_sz x1 x2
  · rw [if_pos hz]
    refine jz_eq (fun _ => u147_5) (jz_if (fun _ => ?_) (fun c => absurd i1_0 c))
    have r7 := st_r2_7 st
    have r5 := st_r2_5 st
    have r0 := st_r31_0 st
    refine jz_eq (fun _ => u147_10 (st_t2 st) (by rw [r7]; decide) (by rw [r7]; exact st_t31 st) (by rw [r7, r0]; decide) (by rw [r5]; decide) (by rw [r7, r0]; exact st_t32 st)) ?_
    rw [r7, r0, r5]
    refine jz_call (z83j hG) (fun v G hG hv => ?_)
    obtain rfl := hv
    obtain ⟨hG, y, i1, o1⟩ := hG
    have st := hG.1.1
    have r3 := st_r2_3 st
    have r5 := st_r2_5 st
    obtain ⟨z1, z2, z3, z4⟩ := hz
    obtain ⟨N, hN, rfl⟩ := ji_nn (k := 13) (x := x1) (by omega) (by omega)
    obtain ⟨W, hW, rfl⟩ := ji_nn (k := 3) (x := x2) (by omega) (by omega)
    rw [nI_toInt (by omega)] at z1
    refine jz_eq (fun _ => u147_24 (st_t2 st) (by rw [r3]; decide) (by rw [r5]; decide) (by rw [r3]; exact st_t11 st)) ?_
    rw [r3, r5]
    obtain ⟨H2, _, f2, q2⟩ := c49 (S := S) (N := N) (W := W) st (st_t27 st) i1 o1 (by omega) (by omega) (by omega)
    refine jz_eq (fun _ => q2 _) ?_
    exact jz_eq (fun _ => u147_37) (jz_end (jK_j hG f2 (fun r g => Or.inl (by omega))) ⟨_, rfl⟩)
  · rw [if_neg hz]
    exact jz_eq (fun _ => u147_5) (jz_if (fun c => absurd rfl c) (fun _ => jz_eq (fun _ => u147_8) (jz_end hG ⟨_, rfl⟩)))
theorem z148 {x1 x2 : Int32} {G : jm_H} (hG : jK H0 G) : jz (jK H0) jz_I (fun Q => jm_c S 148 [.ref 2, .int x1, .int x2] G Q) := by
  have st := hG.1.1
  obtain ⟨T, F, hT, hF, eT, eF⟩ := jk_txt hG
  obtain ⟨N, W, n1, n2, nw, e1, e2⟩ := jk_sz hG
  have r10 := st_r2_10 st
  have h33 : jz (jK H0) jz_I (fun Q => jm_w S 5 148 33 [.ref 2, .int x1, .int x2] [] G Q) := jz_eq (fun _ => u148_33) (jz_end hG ⟨_, rfl⟩)
  refine jz_eq (fun _ => en148.trans u148_0) (jz_if (fun _ => h33) (fun c1 => ?_))
  refine jz_eq (fun _ => u148_4 (st_t2 st) (by rw [eT]; omega) (by rw [eT]; exact (tx_at hT st).1)) (jz_if (fun _ => h33) (fun _ => ?_))
  refine jz_eq (fun _ => u148_15 (st_t2 st) (by rw [r10]; decide) (by rw [r10]; decide) (by rw [r10, st_t174 st]; decide)) ?_
  rw [r10, st_l174 st]
  refine jz_if (fun _ => h33) (fun c2 => ?_)
  obtain ⟨i, hi, rfl⟩ := ji_nn (k := 8) (ti_lt0 c1) (ti_nle (n := 8) (by decide) c2)
  have hix : ¬ (nI i < 0 ∨ jm_ln G (jm_R G 2 10) ≤ (nI i).toNatClampNeg) := by rw [r10, st_l174 st]; exact nI_inK hi (by decide)
  refine jz_eq (fun _ => u148_24) (jz_if (fun _ => h33) (fun _ => ?_))
  refine jz_eq (fun _ => u148_28) (jz_if (fun _ => ?_) (fun _ => h33))
  refine jz_eq (fun _ => u148_36) (jz_if (fun _ => ?_) (fun _ => ?_))
  · obtain ⟨A, hA, eA⟩ := jk_nm hG hi
    have r5 := st_r2_5 st
    have r7 := st_r2_7 st
    refine jz_eq (fun _ => u148_47 (st_t2 st) (by rw [r5]; decide) (by rw [r7]; decide) (by rw [r7]; exact st_t31 st) (by rw [r10]; decide) hix (by rw [r10]; decide) (by rw [r10]; exact st_t174 st) (by rw [r5]; exact st_t27 st)) ?_
    rw [r5, r7, e1, e2, r10, nI_cl (by omega), eA]
    obtain ⟨H2, i2, _, f2, q2⟩ := c68g (S := S) (st_t27 st) (st_r27_0 st) (by decide) (by decide) (st_t28 st) n1 n2 nw hA
    refine jz_eq (fun _ => q2 _) ?_
    have hG : jK H0 H2 := jK_j hG f2 (fun r g => Or.inl (by omega))
    have st := hG.1.1
    have r5 := st_r2_5 st
    have ok2 : jq_ok (jg_val N W A) := jq_b_ok (jg_val_b n1 n2 nw) (by decide) (by decide) (by decide)
    have h99 : jz (jK H0) jz_I (fun Q => jm_w S 5 148 99 [.ref 2, .int (nI i), .int x2] [] H2 Q) := jz_eq (fun _ => u148_99) (jz_end hG ⟨_, rfl⟩)
    have h102 : jz (jK H0) jz_I (fun Q => jm_w S 5 148 102 [.ref 2, .int (nI i), .int x2] [] H2 Q) := by
      refine jz_eq (fun _ => u148_102) (jz_if (fun _ => ?_) (fun _ => ?_))
      · refine jz_eq (fun _ => u148_115) (jz_if (fun _ => ?_) (fun _ => ?_))
        · exact jz_eq (fun _ => (u148_131 (st_t2 st) (by rw [r5]; decide) (by rw [r5]; exact st_t27 st)).trans u148_138) (jz_end hG ⟨_, rfl⟩)
        · exact jz_eq (fun _ => (u148_120 (st_t2 st) (by rw [r5]; decide) (by rw [r5]; exact st_t27 st)).trans u148_138) (jz_end hG ⟨_, rfl⟩)
      · refine jz_eq (fun _ => u148_107 (st_t2 st) (by rw [r5]; decide) (by rw [r5]; exact st_t27 st)) ?_
        rw [r5]
        refine jz_call (jz_pu hG (z109 (st_t27 st) i2 ok2)) (fun v G hG hv => ?_)
        obtain ⟨x, rfl⟩ := hv
        exact jz_eq (fun _ => u148_114) (jz_end hG ⟨_, rfl⟩)
    refine jz_eq (fun _ => u148_74 (st_t2 st) (by rw [r5]; decide) (by rw [r5]; exact st_t27 st)) (jz_if (fun _ => h99) (fun _ => ?_))
    refine jz_eq (fun _ => u148_84) (jz_if (fun _ => h102) (fun _ => ?_))
    exact jz_eq (fun _ => u148_89 (st_t2 st) (by rw [r5]; decide) (by rw [r5]; exact st_t27 st)) (jz_if (fun _ => h102) (fun _ => h99))
  · exact jz_eq (fun _ => u148_40 (st_t2 st) (by rw [r10]; decide) hix (by rw [r10]; decide) (by rw [r10]; exact st_t174 st)) (jz_end hG ⟨_, rfl⟩)
end CALLS
