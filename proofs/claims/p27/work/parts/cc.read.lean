set_option maxRecDepth 20000
/-! the reference's read comes to an end -/
section READ
variable {S : Option (Nat × (Nat → Int32))} {c : Nat} {H0 : jm_H}
theorem jP_Y {G0 G : jm_H} (h : jPH c H0 G0) (hY : jY G0 G) : jPH c H0 G :=
  ⟨jP_same h.1 hY.2.1 (fun r hr => (hY.1.2.2.2.2 r (by omega)).1) (fun k hk => hY.2.2 k (by omega)), jf_fr_trans h.2 (jf_fr_mono hY.1 (fun r hr => by omega))⟩
/-- the meaning of a text -/
theorem z175 {t L : Nat} {G0 G1 G2 : jm_H} (hX : jXl G0 G1 t L G2) (hC : jCE G0 G1) (h0 : jm_I G1 183 t = 0) (h4 : 4 ≤ t) (h12 : jm_I G1 183 1 = 2 ∧ jm_I G1 183 2 = 2) : jz (fun G' => ∃ G3 l p', l ≤ 8 ∧ p' ≤ 401 ∧ jB G0 G3 l p' G' ∧ (jm_I G' 180 14 = 0 → (3 ≤ (jm_I G' 185 1).toInt ∧ (jm_I G' 185 1).toInt ≤ 12) ∧ 0 ≤ (jm_I G' 185 2).toInt ∧ (jm_I G' 185 2).toInt ≤ 2)) jz_0 (fun Q => jm_c S 175 [.ref 180] G2 Q) := by
  obtain ⟨hXt, hL8, hlc, hno, hok⟩ := hX
  obtain ⟨hXX, _, ht, h12z, _⟩ := hXt
  have st := jX_st hXX
  have r7 := st_r180_7 st
  obtain ⟨_, n, en, hn1, hn, hlast, h0n, hv⟩ := hC
  have htn : t < n := by
    refine Nat.lt_of_not_le (fun g => ?_)
    rcases hlast with e | e
    · omega
    · exact hno (n - 1) (by omega) e
  have htn1 : t + 1 = n := h0n t htn h0
  obtain rfl : n = t + 1 := htn1.symm
  have k183 : jm_I G2 183 = jm_I G1 183 := jX_kd hXX
  have k185 : jm_I G2 185 = jm_I G1 185 := (hXX.2.1.2.2.2.2 185 (by decide)).1
  have k10 : jm_I G2 180 10 = nI (t + 1) := hXX.2.2.1.trans en
  have hNa : jN G0 G2 (jm_pI (jm_pI G2 180 29 0) 180 30 0) := jN_pI (jN_pI ⟨hXX.1, jf_fr_refl G2, rfl, h12z, hXX.2.2.2, id⟩ (by decide)) (by decide)
  have c1 : Int32.toNatClampNeg 1 = 1 := by decide
  have c2 : Int32.toNatClampNeg 2 = 2 := by decide
  -- the loop, from a heap of its own
  have E : ∀ {G3 : jm_H}, jN G0 G2 G3 → jm_I G3 180 29 = 0 → jm_I G3 180 30 = 0 → (jm_I G3 180 14 = 0 → (3 ≤ (jm_I G2 185 1).toInt ∧ (jm_I G2 185 1).toInt ≤ 12) ∧ 0 ≤ (jm_I G2 185 2).toInt ∧ (jm_I G2 185 2).toInt ≤ 2) → jz (fun G' => ∃ G3 l p', l ≤ 8 ∧ p' ≤ 401 ∧ jB G0 G3 l p' G' ∧ (jm_I G' 180 14 = 0 → (3 ≤ (jm_I G' 185 1).toInt ∧ (jm_I G' 185 1).toInt ≤ 12) ∧ 0 ≤ (jm_I G' 185 2).toInt ∧ (jm_I G' 185 2).toInt ≤ 2)) jz_0 (fun Q => jm_w S 5 175 51 [.ref 180, .null] [] G3 Q) := by
    intro G3 hN e29 e30 hw
    have q183 : jm_I G3 183 = jm_I G1 183 := (jN_kd hN).trans k183
    have q185 : jm_I G3 185 = jm_I G1 185 := (jN_vl hN).trans k185
    have q10 : jm_I G3 180 10 = nI (t + 1) := hN.2.2.1.trans k10
    have hB : jB G0 G3 (lcnt (jm_I G3 183) 0) 0 G3 := ⟨⟨hN.1, jf_fr_refl G3, rfl, hN.2.2.2.1, hN.2.2.2.2.1, id⟩, e29, e30, Or.inl rfl, fun _ j hj => absurd hj (Nat.not_lt_zero _)⟩
    refine jz_eq (fun _ => u175_51) ?_
    refine jz_mono (l175 (S := S) (G0 := G0) (G2 := G3) (n := t + 1) (by omega) (by omega) (by rw [q183]; exact h0) q10 (fun k hk => by rw [q183, q185]; exact hv k hk) (fun k hk => by rw [q183]; exact hok k (by omega)) (by rw [q183, Nat.add_sub_cancel, hlc]; exact hL8) (t + 1) 0 0 0 (by omega) (Nat.le_refl _) (Nat.zero_le _) (fun i h1 h2 => absurd h2 (by omega)) hB) (fun G' hG' => ?_) (fun _ r => r)
    obtain ⟨l, p', hl, hp, hB'⟩ := hG'
    refine ⟨G3, l, p', hl, hp, hB', fun g => ?_⟩
    rw [jN_vl hB'.1, jN_vl hN]
    refine hw (Classical.byContradiction (fun q => hB'.1.2.2.2.2.2 q g))
  have hI : ∀ {G' : jm_H} {k : Int32}, jN G0 G2 G' → jm_I G' 180 29 = 0 → True := fun _ _ => trivial
  refine jz_eq (fun _ => en175.trans (u175_0 (st_t180 st) (by rw [r7]; decide) (by rw [r7, st_l185 st]; decide) (by rw [r7]; decide) (by rw [r7]; exact st_t185 st))) ?_
  rw [r7, c1]
  refine jz_eq (fun _ => c176 _ _ _) ?_
  have e29 : jm_I (jm_pI (jm_pI G2 180 29 0) 180 30 0) 180 29 = 0 := by rw [jm_I_pI, if_neg (by decide), jm_I_pI, if_pos ⟨rfl, rfl⟩]
  have e30 : jm_I (jm_pI (jm_pI G2 180 29 0) 180 30 0) 180 30 = 0 := by rw [jm_I_pI, if_pos ⟨rfl, rfl⟩]
  rw [jN_vl hNa]
  generalize hGa : jm_pI (jm_pI G2 180 29 0) 180 30 0 = Ga at *
  -- the second test
  have B31 : ∀ {G3 : jm_H}, jN G0 G2 G3 → jm_I G3 180 29 = 0 → jm_I G3 180 30 = 0 → (jm_I G3 180 14 = 0 → 3 ≤ (jm_I G2 185 1).toInt ∧ (jm_I G2 185 1).toInt ≤ 12) → jz (fun G' => ∃ G3 l p', l ≤ 8 ∧ p' ≤ 401 ∧ jB G0 G3 l p' G' ∧ (jm_I G' 180 14 = 0 → (3 ≤ (jm_I G' 185 1).toInt ∧ (jm_I G' 185 1).toInt ≤ 12) ∧ 0 ≤ (jm_I G' 185 2).toInt ∧ (jm_I G' 185 2).toInt ≤ 2)) jz_0 (fun Q => jm_w S 5 175 31 [.ref 180, .null] [] G3 Q) := by
    intro G3 hN e29 e30 hw
    have st3 := jN_st hN
    have r7 := st_r180_7 st3
    refine jz_eq (fun _ => u175_31 (st_t180 st3) (by rw [r7]; decide) (by rw [r7, st_l185 st3]; decide) (by rw [r7]; decide) (by rw [r7]; exact st_t185 st3)) ?_
    rw [r7, c2]
    refine jz_eq (fun _ => c176 _ _ _) ?_
    rw [jN_vl hN]
    by_cases g : Int32.toInt 0 ≤ (jm_I G2 185 2).toInt ∧ (jm_I G2 185 2).toInt ≤ Int32.toInt 2
    · rw [if_pos g]
      refine jz_eq (fun _ => u175_42) (jz_if (fun _ => ?_) (fun q => absurd i1_0 q))
      exact E hN e29 e30 (fun q => ⟨hw q, g⟩)
    · rw [if_neg g]
      refine jz_eq (fun _ => u175_42) (jz_if (fun q => absurd rfl q) (fun _ => ?_))
      refine jz_eq (fun _ => u175_45 (st_t180 st3)) (x177 (j := 2) hN (by decide) (by decide) (fun G' e q => ?_))
      exact E (jN_wrong hN (by decide) e) (by rw [wrong_I e (by decide)]; exact e29) (by rw [wrong_I e (by decide)]; exact e30) (fun q' => absurd q' q)
  by_cases g : Int32.toInt 3 ≤ (jm_I G2 185 1).toInt ∧ (jm_I G2 185 1).toInt ≤ Int32.toInt 12
  · rw [if_pos g]
    refine jz_eq (fun _ => u175_22) (jz_if (fun _ => ?_) (fun q => absurd i1_0 q))
    exact B31 hNa e29 e30 (fun _ => g)
  · rw [if_neg g]
    refine jz_eq (fun _ => u175_22) (jz_if (fun q => absurd rfl q) (fun _ => ?_))
    have sta := jN_st hNa
    refine jz_eq (fun _ => u175_25 (st_t180 sta)) (x177 (j := 1) hNa (by decide) (by decide) (fun G' e q => ?_))
    exact B31 (jN_wrong hNa (by decide) e) (by rw [wrong_I e (by decide)]; exact e29) (by rw [wrong_I e (by decide)]; exact e30) (fun q' => absurd q' q)
end READ
