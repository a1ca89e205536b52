set_option maxRecDepth 20000
/-! the reference's read -/
section WHOLE
variable {S : Option (Nat × (Nat → Int32))} {c : Nat} {H0 : jm_H}
theorem jP_k {G : jm_H} {k : Nat} {v : Int32} (h : jPH c H0 G) (hk : k ≠ 2 ∧ k ≠ 25 ∧ k ≠ 39 ∧ k ≠ 40) : jPH c H0 (jm_pI G 180 k v) :=
  ⟨jP_same h.1 (jf_fr_st (P := fun _ => True) (jf_fr_pI trivial) (jP_st h.1)) (fun r hr => funext fun j => by rw [jm_I_pI, if_neg (by omega)]) (fun j hj => by rw [jm_I_pI, if_neg (by omega)]), jH_pI h.2 (by decide)⟩
theorem jP_182 {G : jm_H} {k : Nat} {v : Int32} (h : jPH c H0 G) : jPH c H0 (jm_pI G 182 k v) :=
  ⟨jP_same h.1 (jf_fr_st (P := fun _ => True) (jf_fr_pI trivial) (jP_st h.1)) (fun r hr => funext fun j => by rw [jm_I_pI, if_neg (by omega)]) (fun j hj => by rw [jm_I_pI, if_neg (by omega)]), jH_pI h.2 (by decide)⟩
theorem i32_of0 {x : Int32} (h : x.toInt = 0) : x = 0 := by rw [jI_of x, h]; rfl
theorem i32_le0 {x : Int32} (h : x ≤ 0) : x.toInt ≤ 0 := Int32.le_iff_toInt_le.mp h
theorem l160c {n : Nat} (hn : n ≤ 2000) {K : jm_H → Prop} {R : Option Value → Prop} (E : ∀ {G : jm_H}, jPH c H0 G → jm_I G 180 4 = nI n → jz K R (fun Q => jm_w S 10 160 36 [.ref 180, .int (nI n)] [] G Q)) : ∀ (d i : Nat) {G : jm_H}, i + d = n → jPH c H0 G → jm_I G 180 4 = nI n → jz K R (fun Q => jm_w S 10 160 10 [.ref 180, .int (nI i)] [] G Q)
  | 0, i, G, hd, hG, e4 => by
    obtain rfl : i = n := by omega
    refine jz_eq (fun _ => u160_10 (st_t180 (jP_st hG.1))) ?_
    rw [e4]
    exact jz_if (fun _ => E hG e4) (fun g => absurd ((nI_leI (a := i) (b := i) (by omega) (by omega)).mpr (Nat.le_refl _)) g)
  | d + 1, i, G, hd, hG, e4 => by
    have st := jP_st hG.1
    have r1 := st_r180_1 st
    have r3 := st_r180_3 st
    refine jz_eq (fun _ => u160_10 (st_t180 st)) ?_
    rw [e4]
    refine jz_if (fun g => ?_) (fun _ => ?_)
    · have := (nI_leI (a := n) (b := i) (by omega) (by omega)).mp g
      omega
    refine jz_eq (fun _ => u160_18 (st_t180 st) (by rw [r3]; decide) (by rw [r1]; decide) (by rw [r1, st_l181 st]; exact nI_inK (by omega) (by decide)) (by rw [r1]; exact Or.inl (st_t181 st)) (by rw [r3, st_l182 st]; exact nI_inK (by omega) (by decide)) (by rw [r3]; exact st_t182 st)) ?_
    rw [r1, r3, nI_cl (by omega), nI_succK]
    exact l160c hn E d (i + 1) (by omega) (jP_182 hG) (by rw [jm_I_pI, if_neg (by omega)]; exact e4)
theorem z160 {G : jm_H} (h : jPH c H0 G) : jz (jPH c H0) jz_I (fun Q => jm_c S 160 [.ref 180] G Q) := by
  obtain ⟨n, hn, en⟩ := jP_len h.1
  have st := jP_st h.1
  refine jz_eq (fun _ => en160.trans (u160_0 (st_t180 st))) ?_
  rw [en]
  refine l160c (S := S) (c := c) (H0 := H0) hn (fun {G1} h1 e4 => ?_) n 0 (by omega) (jP_k h (by decide)) (by rw [jm_I_pI, if_pos ⟨rfl, rfl⟩])
  refine jz_eq (fun _ => u160_36 (st_t180 (jP_st h1.1))) ?_
  have h2 : jPH c H0 (jm_pI G1 180 2 0) := jP_2 (v := 0) (by decide) h1
  have e4' : jm_I (jm_pI G1 180 2 0) 180 4 = nI n := by rw [jm_I_pI, if_neg (by decide)]; exact e4
  generalize jm_pI G1 180 2 0 = G2 at *
  refine jz_call (z161 (S := S) hn (jY_refl (jP_st h2.1)) e4') (fun v G3 hC hv => ?_)
  obtain rfl := hv
  refine z160s (S := S) hC.1 (fun {G4} hA h12 => ?_)
  rcases hA with hF | ⟨t, L, hX, h0, ht⟩
  · have hP := jP_Y h2 hF.1.1
    have st4 := jP_st hP.1
    have hp := hF.2.2
    refine jz_eq (fun _ => u160_108 (st_t180 st4)) (jz_if (fun _ => ?_) (fun g => absurd (jXf_0 hF) g))
    refine jz_eq (fun _ => u160_119 (st_t180 st4)) (jz_if (fun g => ?_) (fun _ => ?_))
    · have := i32_le0 g
      omega
    have e12 : ∀ v, jm_I (jm_pI G4 180 16 v) 180 12 = jm_I G4 180 12 := fun v => by rw [jm_I_pI, if_neg (by decide)]
    refine jz_eq (fun _ => u160_127 (st_t180 st4)) (jz_eq (fun _ => u160_149 (st_t180 st4) (st_t180 st4)) ?_)
    rw [e12]
    refine jz_if (fun g => ?_) (fun _ => ?_)
    · have := i32_le0 g
      omega
    have h5 := jP_k (k := 16) (v := jm_I G4 180 13) hP (by decide)
    exact jz_eq (fun _ => u160_159 (st_t180 (jP_st h5.1))) (jz_end h5 ⟨_, rfl⟩)
  · have hXt := hX.1
    have hP := jP_Y h2 hXt.1.1
    have st4 := jP_st hP.1
    have e0 : jm_I G4 180 12 = 0 := hXt.2.2.2.1
    refine jz_eq (fun _ => u160_108 (st_t180 st4)) (jz_if (fun g => absurd e0 g) (fun _ => ?_))
    refine jz_eq (fun _ => u160_115 (st_t180 st4)) (jz_call (z175 (S := S) hX hC h0 ht (h12 hX)) (fun v G5 h5 hv => ?_))
    obtain rfl := hv
    obtain ⟨G6, l, p, hl, hp, hB, hw⟩ := h5
    have hP5 := jP_Y h2 hB.1.1
    have st5 := jP_st hP5.1
    have e0 : jm_I G5 180 12 = 0 := hB.1.2.2.2.1
    have hge := hB.1.2.2.2.2.1
    have h149 : ∀ v, jz (jPH c H0) jz_I (fun Q => jm_w S 10 160 149 [.ref 180, .int (nI n)] [.int v, .ref 180] G5 Q) := by
      intro v
      have e12 : jm_I (jm_pI G5 180 16 v) 180 12 = 0 := by rw [jm_I_pI, if_neg (by decide)]; exact e0
      have e14 : jm_I (jm_pI G5 180 16 v) 180 14 = jm_I G5 180 14 := by rw [jm_I_pI, if_neg (by decide)]
      have h6 := jP_k (k := 16) (v := v) hP5 (by decide)
      have st6 := jP_st h6.1
      refine jz_eq (fun _ => u160_149 (st_t180 st5) (st_t180 st5)) ?_
      rw [e12]
      refine jz_if (fun _ => ?_) (fun g => absurd (by decide) g)
      refine jz_eq (fun _ => u160_164 (st_t180 st6)) ?_
      rw [e14]
      refine jz_if (fun g => ?_) (fun _ => jz_eq (fun _ => u160_171 (st_t180 st6)) (jz_end h6 ⟨_, rfl⟩))
      have g0 : jm_I G5 180 14 = 0 := i32_of0 (by have := i32_le0 g; omega)
      obtain ⟨w1, w2⟩ := hw g0
      have eI : ∀ r k, r ≠ 180 ∨ k ≠ 16 → jm_I (jm_pI G5 180 16 v) r k = jm_I G5 r k := fun r k hk => by rw [jm_I_pI, if_neg (by omega)]
      refine jz_eq (fun _ => u160_176 (st_t180 st6)) (jz_call (z185 (S := S) (l := l) (p := p) h6 hl hp (by rw [eI _ _ (by decide)]; exact hB.2.1) (by rw [eI _ _ (by decide)]; exact hB.2.2.1) (jPr_same (Nat.le_refl _) (fun k _ => ⟨eI _ _ (Or.inl (by decide)), eI _ _ (Or.inl (by decide))⟩) (fun k _ => eI _ _ (Or.inl (by decide))) (hB.2.2.2.2 g0)) (by rw [eI _ _ (by decide)]; exact w1) (by rw [eI _ _ (by decide)]; exact w2)) (fun v G7 h7 hv => ?_))
      obtain rfl := hv
      exact jz_eq (fun _ => u160_180) (jz_end h7 ⟨_, rfl⟩)
    refine jz_eq (fun _ => u160_119 (st_t180 st5)) ?_
    rw [e0]
    refine jz_if (fun _ => ?_) (fun g => absurd (by decide) g)
    exact jz_eq (fun _ => u160_134 (st_t180 st5)) (jz_if (fun _ => jz_eq (fun _ => u160_148) (h149 _)) (fun _ => jz_eq (fun _ => u160_141 (st_t180 st5)) (h149 _)))
end WHOLE
