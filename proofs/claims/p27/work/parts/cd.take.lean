set_option maxRecDepth 20000
/-! the reference takes a text; its read as a whole -/
section TAKE
variable {S : Option (Nat × (Nat → Int32))} {c : Nat} {H0 : jm_H} {K : jm_H → Prop} {R : Option Value → Prop}
def tk (G0 : jm_H) (i : Nat) (G : jm_H) : Prop := jf_fr (fun r => r = 189 ∨ r = 190) G0 G ∧ ∀ k, k < i → jm_I G 189 k = jm_I G0 194 k ∧ jm_I G 190 k = jm_I G0 195 k
theorem tk_s {G0 G : jm_H} {i : Nat} (h : tk G0 i G) : tk G0 (i + 1) (jm_pI (jm_pI G 189 i (jm_I G 194 i)) 190 i (jm_I (jm_pI G 189 i (jm_I G 194 i)) 195 i)) := by
  refine ⟨jf_fr_trans h.1 (jf_fr_trans (jf_fr_pI (Or.inl rfl)) (jf_fr_pI (Or.inr rfl))), fun k hk => ?_⟩
  by_cases g : k = i
  · subst g
    refine ⟨?_, ?_⟩
    · rw [jm_I_pI, if_neg (by omega), jm_I_pI, if_pos ⟨rfl, rfl⟩, (h.1.2.2.2.2 194 (by decide)).1]
    · rw [jm_I_pI, if_pos ⟨rfl, rfl⟩, jm_I_pI, if_neg (by omega), (h.1.2.2.2.2 195 (by decide)).1]
  · obtain ⟨a, b⟩ := h.2 k (by omega)
    refine ⟨?_, ?_⟩
    · rw [jm_I_pI, if_neg (by omega), jm_I_pI, if_neg (by omega)]; exact a
    · rw [jm_I_pI, if_neg (by omega), jm_I_pI, if_neg (by omega)]; exact b
theorem l185a {p : Nat} (hp : p ≤ 401) {G0 : jm_H} (st0 : jm_st G0) (e29 : jm_I G0 180 29 = nI p) (E : ∀ {G : jm_H}, tk G0 p G → jz K R (fun Q => jm_w S 9 185 40 [.ref 180, .int (nI p)] [] G Q)) : ∀ (d i : Nat) {G : jm_H}, i + d = p → tk G0 i G → jz K R (fun Q => jm_w S 9 185 2 [.ref 180, .int (nI i)] [] G Q)
  | 0, i, G, hd, hG => by
    obtain rfl : i = p := by omega
    have st := jf_fr_st hG.1 st0
    refine jz_eq (fun _ => u185_2 (st_t180 st)) ?_
    rw [(hG.1.2.2.2.2 180 (by decide)).1, e29]
    exact jz_if (fun _ => E hG) (fun g => absurd ((nI_leI (a := i) (b := i) (by omega) (by omega)).mpr (Nat.le_refl _)) g)
  | d + 1, i, G, hd, hG => by
    have st := jf_fr_st hG.1 st0
    have r19 := st_r180_19 st
    have r20 := st_r180_20 st
    have r26 := st_r180_26 st
    have r27 := st_r180_27 st
    refine jz_eq (fun _ => u185_2 (st_t180 st)) ?_
    rw [(hG.1.2.2.2.2 180 (by decide)).1, e29]
    refine jz_if (fun g => ?_) (fun _ => ?_)
    · have := (nI_leI (a := p) (b := i) (by omega) (by omega)).mp g
      omega
    refine jz_eq (fun _ => u185_10 (st_t180 st) (by rw [r19]; decide) (by rw [r26]; decide) (by rw [r26, st_l194 st]; exact nI_inK (by omega) (by decide)) (by rw [r26]; decide) (by rw [r26]; exact st_t194 st) (by rw [r19, st_l189 st]; exact nI_inK (by omega) (by decide)) (by rw [r19]; exact st_t189 st) (by rw [r20]; decide) (by rw [r27]; decide) (by rw [r27, st_l195 st]; exact nI_inK (by omega) (by decide)) (by rw [r27]; decide) (by rw [r27]; exact st_t195 st) (by rw [r20, st_l190 st]; exact nI_inK (by omega) (by decide)) (by rw [r20]; exact st_t190 st)) ?_
    rw [r19, r20, r26, r27, nI_cl (by omega), nI_succK]
    exact l185a hp st0 e29 E d (i + 1) (by omega) (tk_s hG)
theorem l185b {l : Nat} (hl : l ≤ 8) {G0 : jm_H} (st0 : jm_st G0) (e25 : jm_I G0 180 25 = nI l) (E : ∀ {G : jm_H}, cpy G0 191 0 196 0 (l + 1) G → jz K R (fun Q => jm_w S 9 185 84 [.ref 180, .int (nI (l + 1))] [] G Q)) : ∀ (d i : Nat) {G : jm_H}, i + d = l + 1 → cpy G0 191 0 196 0 i G → jz K R (fun Q => jm_w S 9 185 58 [.ref 180, .int (nI i)] [] G Q)
  | 0, i, G, hd, hG => by
    obtain rfl : i = l + 1 := by omega
    have st := jf_fr_st hG.1 st0
    refine jz_eq (fun _ => u185_58 (st_t180 st)) ?_
    rw [(hG.1.2.2.2.2 180 (by decide)).1, e25]
    exact jz_if (fun _ => E hG) (fun g => absurd ((nI_ltI (a := l) (b := l + 1) (by omega) (by omega)).mpr (by omega)) g)
  | d + 1, i, G, hd, hG => by
    have st := jf_fr_st hG.1 st0
    have r22 := st_r180_22 st
    have r28 := st_r180_28 st
    refine jz_eq (fun _ => u185_58 (st_t180 st)) ?_
    rw [(hG.1.2.2.2.2 180 (by decide)).1, e25]
    refine jz_if (fun g => ?_) (fun _ => ?_)
    · have := (nI_ltI (a := l) (b := i) (by omega) (by omega)).mp g
      omega
    refine jz_eq (fun _ => u185_66 (st_t180 st) (by rw [r22]; decide) (by rw [r28]; decide) (by rw [r28, st_l196 st]; exact nI_inK (by omega) (by decide)) (by rw [r28]; decide) (by rw [r28]; exact st_t196 st) (by rw [r22, st_l191 st]; exact nI_inK (by omega) (by decide)) (by rw [r22]; exact st_t191 st)) ?_
    rw [r22, r28, nI_cl (by omega), nI_succK]
    have := cpy_s (by decide) hG
    rw [Nat.zero_add] at this
    exact l185b hl st0 e25 E d (i + 1) (by omega) this
theorem l185c {G0 : jm_H} (st0 : jm_st G0) (E : ∀ {G : jm_H}, zro G0 0 20 G → jz K R (fun Q => jm_w S 9 185 105 [.ref 180, .int (nI 20)] [] G Q)) : ∀ (d i : Nat) {G : jm_H}, i + d = 20 → zro G0 0 i G → jz K R (fun Q => jm_w S 9 185 86 [.ref 180, .int (nI i)] [] G Q)
  | 0, i, G, hd, hG => by
    obtain rfl : i = 20 := by omega
    exact jz_eq (fun _ => u185_86) (jz_if (fun _ => E hG) (fun g => absurd (by decide) g))
  | d + 1, i, G, hd, hG => by
    have st := jf_fr_st hG.1 st0
    have r17 := st_r180_17 st
    refine jz_eq (fun _ => u185_86) (jz_if (fun g => ?_) (fun _ => ?_))
    · have := (nI_leI (a := 20) (b := i) (by decide) (by omega)).mp g
      omega
    refine jz_eq (fun _ => u185_92 (st_t180 st) (by rw [r17]; decide) (by rw [r17, st_l188 st]; exact nI_inK (by omega) (by decide)) (by rw [r17]; exact st_t188 st)) ?_
    rw [r17, nI_cl (by omega), nI_succK]
    exact l185c st0 E d (i + 1) (by omega) (zro_s (Nat.zero_le _) hG)
theorem jP_204 {G : jm_H} {k : Nat} (h : jPH c H0 G) : jPH c H0 (jm_pI G 204 k 0) := by
  refine ⟨?_, jH_pI h.2 (by decide)⟩
  obtain ⟨l, ⟨st, hn, hb, ⟨ee, u, u1, u2, u3, u4, u5⟩, hs, hl, e25, hp⟩, N, hN, eN, hr⟩ := h.1
  have eF : ∀ r, r ≠ 204 → jm_I (jm_pI G 204 k 0) r = jm_I G r := fun r h1 => funext fun j => by rw [jm_I_pI, if_neg (by omega)]
  refine ⟨l, ⟨jf_fr_st (P := fun _ => True) (jf_fr_pI trivial) st, by rw [eF 180 (by decide)]; exact hn, bnk_same (Nat.le_refl _) hb (eF 188 (by decide)), ⟨ee, u, u1, u2, by rw [eF 180 (by decide)]; exact u3, by rw [eF 180 (by decide)]; exact u4, fun j hj => bnk_same (Nat.le_refl _) (u5 j hj) (eF 202 (by decide))⟩, fun s hs' => ?_, hl, by rw [eF 180 (by decide)]; exact e25, prg_same hp (eF 189 (by decide)) (eF 190 (by decide)) (eF 191 (by decide))⟩, N, hN, by rw [eF 188 (by decide)]; exact eN, fun j hj => by rw [eF 193 (by decide)]; exact hr j hj⟩
  by_cases g : s = k
  · rw [jm_I_pI, if_pos ⟨rfl, g⟩]
    exact Or.inl rfl
  · rw [jm_I_pI, if_neg (by omega)]
    exact (hs s hs').imp id (fun h => bnk_same (Nat.le_refl _) h (eF 203 (by decide)))
theorem l185d : ∀ (d i : Nat) {G : jm_H}, i + d = 3 → jPH c H0 G → jz (jPH c H0) jz_0 (fun Q => jm_w S 9 185 140 [.ref 180, .int (nI i)] [] G Q)
  | 0, i, G, hd, hG => by
    obtain rfl : i = 3 := by omega
    exact jz_eq (fun _ => u185_140) (jz_if (fun _ => jz_eq (fun _ => u185_158) (jz_end hG rfl)) (fun g => absurd (by decide) g))
  | d + 1, i, G, hd, hG => by
    have st := jP_st hG.1
    have r42 := st_r180_42 st
    refine jz_eq (fun _ => u185_140) (jz_if (fun g => ?_) (fun _ => ?_))
    · have := (nI_leI (a := 3) (b := i) (by decide) (by omega)).mp g
      omega
    refine jz_eq (fun _ => u185_145 (st_t180 st) (by rw [r42]; decide) (by rw [r42, st_l204 st]; exact nI_inK (by omega) (by decide)) (by rw [r42]; exact st_t204 st)) ?_
    rw [r42, nI_cl (by omega), nI_succK]
    exact l185d d (i + 1) (by omega) (jP_204 hG)
theorem jP0_new {l0 l : Nat} {T0 T : jm_H} (h : jP0 c l0 T0) (st : jm_st T) (e2 : ∀ k, k = 2 ∨ k = 39 ∨ k = 40 → jm_I T 180 k = jm_I T0 180 k) (e : ∀ r, r = 202 ∨ r = 203 ∨ r = 204 → jm_I T r = jm_I T0 r) (hb : bnk T 188 0 c) (hl : l ≤ 8) (e25 : jm_I T 180 25 = nI l) (hp : prg T l) : jP0 c l T := by
  obtain ⟨_, ⟨n, hn, en⟩, _, ⟨ee, u, u1, u2, u3, u4, u5⟩, hs, _, _, _⟩ := h
  refine ⟨st, ⟨n, hn, by rw [e2 2 (by omega)]; exact en⟩, hb, ⟨ee, u, u1, u2, by rw [e2 39 (by omega)]; exact u3, by rw [e2 40 (by omega)]; exact u4, fun j hj => bnk_same (Nat.le_refl _) (u5 j hj) (e 202 (by omega))⟩, fun s hs' => ?_, hl, e25, hp⟩
  rw [e 204 (by omega)]
  exact (hs s hs').imp id (fun h => bnk_same (Nat.le_refl _) h (e 203 (by omega)))
theorem z185 {l p : Nat} {T0 : jm_H} (hP : jPH c H0 T0) (hl : l ≤ 8) (hp : p ≤ 401) (e29 : jm_I T0 180 29 = nI p) (e30 : jm_I T0 180 30 = nI l) (hPr : jPr T0 l p) (hw1 : 3 ≤ (jm_I T0 185 1).toInt ∧ (jm_I T0 185 1).toInt ≤ 12) (hw2 : 0 ≤ (jm_I T0 185 2).toInt ∧ (jm_I T0 185 2).toInt ≤ 2) : jz (jPH c H0) jz_0 (fun Q => jm_c S 185 [.ref 180] T0 Q) := by
  have st0 := jP_st hP.1
  have c0 : Int32.toNatClampNeg 0 = 0 := by decide
  have c1 : Int32.toNatClampNeg 1 = 1 := by decide
  have c2 : Int32.toNatClampNeg 2 = 2 := by decide
  obtain ⟨M, hM, eM⟩ := ji_nn (k := 13) (x := jm_I T0 185 1) (by omega) (by omega)
  obtain ⟨V, hV, eV⟩ := ji_nn (k := 3) (x := jm_I T0 185 2) (by omega) (by omega)
  have hM3 : 3 ≤ M := by
    rw [eM, nI_toInt (by omega)] at hw1
    omega
  refine jz_eq (fun _ => en185.trans u185_0) (l185a (S := S) hp st0 e29 (fun {G} hG => ?_) p 0 (by omega) ⟨jf_fr_refl T0, fun k hk => absurd hk (Nat.not_lt_zero _)⟩)
  have stG := jf_fr_st hG.1 st0
  refine jz_eq (fun _ => u185_40 (st_t180 stG)) ?_
  have q30 : jm_I (jm_pI G 180 21 (jm_I G 180 29)) 180 30 = nI l := by rw [jm_I_pI, if_neg (by decide), (hG.1.2.2.2.2 180 (by decide)).1]; exact e30
  rw [q30]
  have fT : jf_fr (fun r => r = 180) G (jm_pI (jm_pI G 180 21 (jm_I G 180 29)) 180 25 (nI l)) := jf_fr_trans (jf_fr_pI rfl) (jf_fr_pI rfl)
  have eT : ∀ k, k ≠ 21 → k ≠ 25 → jm_I (jm_pI (jm_pI G 180 21 (jm_I G 180 29)) 180 25 (nI l)) 180 k = jm_I T0 180 k := fun k h1 h2 => by rw [jm_I_pI, if_neg (by omega), jm_I_pI, if_neg (by omega), (hG.1.2.2.2.2 180 (by decide)).1]
  have eT25 : jm_I (jm_pI (jm_pI G 180 21 (jm_I G 180 29)) 180 25 (nI l)) 180 25 = nI l := by rw [jm_I_pI, if_pos ⟨rfl, rfl⟩]
  generalize jm_pI (jm_pI G 180 21 (jm_I G 180 29)) 180 25 (nI l) = T1 at *
  have st1 := jf_fr_st fT stG
  refine l185b (S := S) hl st1 eT25 (fun {G2} hG2 => ?_) (l + 1) 0 (by omega) cpy_0
  have st2 := jf_fr_st hG2.1 st1
  refine jz_eq (fun _ => u185_84) (l185c (S := S) st2 (fun {G3} hG3 => ?_) 20 0 (by decide) ⟨jf_fr_refl G2, fun k => by rw [if_neg (by omega)]⟩)
  have st3 := jf_fr_st hG3.1 st2
  have r17 := st_r180_17 st3
  have r7 := st_r180_7 st3
  have e185 : jm_I G3 185 = jm_I T0 185 := (hG3.1.2.2.2.2 185 (by decide)).1.trans ((hG2.1.2.2.2.2 185 (by decide)).1.trans ((fT.2.2.2.2 185 (by decide)).1.trans (hG.1.2.2.2.2 185 (by decide)).1))
  refine jz_eq (fun _ => u185_105 (st_t180 st3) (by rw [r17]; decide) (by rw [r7]; decide) (by rw [r7, st_l185 st3]; decide) (by rw [r7]; decide) (by rw [r7]; exact st_t185 st3) (by rw [r17, st_l188 st3]; decide) (by rw [r17]; exact st_t188 st3) (by rw [r7, st_l185 st3]; decide) (by rw [r17, st_l188 st3]; decide)) ?_
  have q2 : ∀ v, jm_I (jm_pI G3 188 0 v) 185 2 = nI V := fun v => by rw [jm_I_pI, if_neg (by decide), e185]; exact eV
  rw [r17, r7, c0, c1, c2, q2, e185, eM]
  have f4 : jf_fr (fun r => r = 188) G3 (jm_pI (jm_pI G3 188 0 (nI M)) 188 1 (nI V)) := jf_fr_trans (jf_fr_pI rfl) (jf_fr_pI rfl)
  have hb : bnk (jm_pI (jm_pI G3 188 0 (nI M)) 188 1 (nI V)) 188 0 c := by
    refine ⟨M, V, 0, hM3, by omega, by omega, ?_, ?_, ?_, fun k hk => ?_, Nat.zero_le _⟩
    · rw [jm_I_pI, if_neg (by decide), jm_I_pI, if_pos ⟨rfl, rfl⟩]
    · rw [jm_I_pI, if_pos ⟨rfl, rfl⟩]
    · rw [jm_I_pI, if_neg (by decide), jm_I_pI, if_neg (by decide), hG3.2, if_pos (by decide)]; rfl
    · rw [jm_I_pI, if_neg (by omega), jm_I_pI, if_neg (by omega), hG3.2, if_pos (by omega), show (0 : Int).natAbs = 0 from rfl, jq_d0]; rfl
  generalize jm_pI (jm_pI G3 188 0 (nI M)) 188 1 (nI V) = T at *
  have fr : ∀ r, r ≠ 180 → r ≠ 188 → r ≠ 189 → r ≠ 190 → r ≠ 191 → jm_I T r = jm_I T0 r := fun r h1 h2 h3 h4 h5 => (f4.2.2.2.2 r (by omega)).1.trans ((hG3.1.2.2.2.2 r (by omega)).1.trans ((hG2.1.2.2.2.2 r (by omega)).1.trans ((fT.2.2.2.2 r (by omega)).1.trans (hG.1.2.2.2.2 r (by omega)).1)))
  have f180 : jm_I T 180 = jm_I T1 180 := (f4.2.2.2.2 180 (by decide)).1.trans ((hG3.1.2.2.2.2 180 (by decide)).1.trans (hG2.1.2.2.2.2 180 (by decide)).1)
  have f189 : jm_I T 189 = jm_I G 189 := (f4.2.2.2.2 189 (by decide)).1.trans ((hG3.1.2.2.2.2 189 (by decide)).1.trans ((hG2.1.2.2.2.2 189 (by decide)).1.trans (fT.2.2.2.2 189 (by decide)).1))
  have f190 : jm_I T 190 = jm_I G 190 := (f4.2.2.2.2 190 (by decide)).1.trans ((hG3.1.2.2.2.2 190 (by decide)).1.trans ((hG2.1.2.2.2.2 190 (by decide)).1.trans (fT.2.2.2.2 190 (by decide)).1))
  have f191 : ∀ k, k ≤ l → jm_I T 191 k = jm_I T0 196 k := fun k hk => by
    have := hG2.2.1 k (by omega)
    rw [Nat.zero_add] at this
    rw [(f4.2.2.2.2 191 (by decide)).1, (hG3.1.2.2.2.2 191 (by decide)).1, this, (fT.2.2.2.2 196 (by decide)).1, (hG.1.2.2.2.2 196 (by decide)).1]
  have hpr : prg T l := by
    intro j hj
    obtain ⟨a, b, h, a1, a2, a3, a4, a5, a6⟩ := hPr j hj
    refine ⟨a, b, h, by rw [f191 j (by omega)]; exact a1, by rw [f191 (j + 1) (by omega)]; exact a2, a3, by omega, a5, ?_⟩
    rw [hg_same (K := jm_I T0 194) (V := jm_I T0 195) (b - a) (fun i hi => by rw [f189, f190]; exact hG.2 (a + i) (by omega))]
    exact a6
  have st4 := jf_fr_st f4 st3
  obtain ⟨l0, h0, _⟩ := hP.1
  have hT : jP0 c l T := jP0_new h0 st4 (fun k hk => by rw [f180]; exact eT k (by omega) (by omega)) (fun r hr => fr r (by omega) (by omega) (by omega) (by omega) (by omega)) hb hl (by rw [f180]; exact eT25) hpr
  have hH : jH H0 T := jf_fr_trans hP.2 (jf_fr_trans (jf_fr_mono hG.1 (fun r h => by omega)) (jf_fr_trans (jf_fr_mono fT (fun r h => by omega)) (jf_fr_trans (jf_fr_mono hG2.1 (fun r h => by omega)) (jf_fr_trans (jf_fr_mono hG3.1 (fun r h => by omega)) (jf_fr_mono f4 (fun r h => by omega))))))
  refine jz_call (w186 (S := S) hT hH) (fun v G5 h5 hv => ?_)
  obtain rfl := hv
  refine jz_eq (fun _ => u185_133 (st_t180 (jP_st h5.1))) (l185d (S := S) 3 0 (by decide) ⟨?_, jH_pI h5.2 (by decide)⟩)
  obtain ⟨l2, h3, N, hN, eN, hr⟩ := h5.1
  exact ⟨l2, jP0_40 (u' := 0) h3 (fun _ _ _ => Nat.zero_le _), N, hN, by rw [jm_I_pI, if_neg (by decide)]; exact eN, fun j hj => by rw [jm_I_pI, if_neg (by omega)]; exact hr j hj⟩
end TAKE
