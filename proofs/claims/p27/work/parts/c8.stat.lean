set_option maxRecDepth 20000
/-! the reference's state: its bounds, call by call -/
/-- size, width, a number: as they lie in twenty places -/
def bnk (G : jm_H) (r o c : Nat) : Prop := ∃ N W z, 3 ≤ N ∧ N ≤ 12 ∧ W ≤ 2 ∧ jm_I G r o = nI N ∧ jm_I G r (o + 1) = nI W ∧ jm_I G r (o + 2) = jI (jq_sg z) ∧ (∀ k, k < 16 → jm_I G r (o + 4 + k) = nI (jq_d z.natAbs k)) ∧ z.natAbs ≤ c * 2 ^ 230
theorem bnk_cp {G G' : jm_H} {r o r' o' c c' : Nat} (hc : c ≤ c') (h : bnk G r o c) (e : ∀ k, k < 20 → jm_I G' r' (o' + k) = jm_I G r (o + k)) : bnk G' r' o' c' := by
  obtain ⟨N, W, z, h1, h2, h3, h4, h5, h6, h7, h8⟩ := h
  refine ⟨N, W, z, h1, h2, h3, by rw [← Nat.add_zero o', e 0 (by decide), Nat.add_zero]; exact h4, by rw [e 1 (by decide)]; exact h5, by rw [e 2 (by decide)]; exact h6, fun k hk => ?_, Nat.le_trans h8 (Nat.mul_le_mul_right _ hc)⟩
  rw [Nat.add_assoc, e (4 + k) (by omega), ← Nat.add_assoc]
  exact h7 k hk
theorem bnk_same {G G' : jm_H} {r o c c' : Nat} (hc : c ≤ c') (h : bnk G r o c) (e : jm_I G' r = jm_I G r) : bnk G' r o c' := bnk_cp hc h (fun k _ => by rw [e])
def und (G : jm_H) (e u c : Nat) : Prop := e < 40 ∧ u ≤ 40 ∧ jm_I G 180 39 = nI e ∧ jm_I G 180 40 = nI u ∧ ∀ j, j < u → bnk G 202 (20 * ((e + j) % 40)) c
/-- all but the names -/
def jP0 (c l : Nat) (G : jm_H) : Prop := jm_st G ∧ (∃ n, n ≤ 2000 ∧ jm_I G 180 2 = nI n) ∧ bnk G 188 0 c ∧ (∃ e u, und G e u c) ∧ (∀ s, s < 3 → jm_I G 204 s = 0 ∨ bnk G 203 (20 * s) c) ∧ l ≤ 8 ∧ jm_I G 180 25 = nI l ∧ prg G l
def jPr' (l : Nat) (G : jm_H) : Prop := ∃ N, N ≤ 12 ∧ jm_I G 188 0 = nI N ∧ rws G N l
/-- the reference's state is in bounds -/
def jP (c : Nat) (G : jm_H) : Prop := ∃ l, jP0 c l G ∧ jPr' l G
theorem prg_same {G G' : jm_H} {l : Nat} (h : prg G l) (e1 : jm_I G' 189 = jm_I G 189) (e2 : jm_I G' 190 = jm_I G 190) (e3 : jm_I G' 191 = jm_I G 191) : prg G' l := by
  intro j hj
  rw [e1, e2, e3]
  exact h j hj
/-- what changes nothing of it -/
theorem jP0_same {c l : Nat} {G G' : jm_H} (h : jP0 c l G) (st : jm_st G') (e : ∀ r, r = 188 ∨ r = 189 ∨ r = 190 ∨ r = 191 ∨ r = 202 ∨ r = 203 ∨ r = 204 → jm_I G' r = jm_I G r) (e0 : ∀ k, k = 2 ∨ k = 25 ∨ k = 39 ∨ k = 40 → jm_I G' 180 k = jm_I G 180 k) : jP0 c l G' := by
  obtain ⟨_, ⟨n, hn, e2⟩, hb, ⟨ee, u, u1, u2, u3, u4, u5⟩, hs, hl, e25, hp⟩ := h
  refine ⟨st, ⟨n, hn, by rw [e0 2 (by omega)]; exact e2⟩, bnk_same (Nat.le_refl _) hb (e 188 (by omega)), ⟨ee, u, u1, u2, by rw [e0 39 (by omega)]; exact u3, by rw [e0 40 (by omega)]; exact u4, fun j hj => bnk_same (Nat.le_refl _) (u5 j hj) (e 202 (by omega))⟩, fun s hs' => ?_, hl, by rw [e0 25 (by omega)]; exact e25, prg_same hp (e 189 (by omega)) (e 190 (by omega)) (e 191 (by omega))⟩
  rw [e 204 (by omega)]
  exact (hs s hs').imp id (fun h => bnk_same (Nat.le_refl _) h (e 203 (by omega)))
theorem jP_same {c : Nat} {G G' : jm_H} (h : jP c G) (st : jm_st G') (e : ∀ r, r = 188 ∨ r = 189 ∨ r = 190 ∨ r = 191 ∨ r = 193 ∨ r = 202 ∨ r = 203 ∨ r = 204 → jm_I G' r = jm_I G r) (e0 : ∀ k, k = 2 ∨ k = 25 ∨ k = 39 ∨ k = 40 → jm_I G' 180 k = jm_I G 180 k) : jP c G' := by
  obtain ⟨l, h0, N, hN, eN, hr⟩ := h
  refine ⟨l, jP0_same h0 st (fun r hr => e r (by omega)) e0, N, hN, by rw [e 188 (by omega)]; exact eN, fun j hj => ?_⟩
  rw [e 193 (by omega)]
  exact hr j hj
theorem jP0_mono {c c' l : Nat} {G : jm_H} (hc : c ≤ c') (h : jP0 c l G) : jP0 c' l G := by
  obtain ⟨st, h2, hb, ⟨ee, u, u1, u2, u3, u4, u5⟩, hs, hl, e25, hp⟩ := h
  exact ⟨st, h2, bnk_same hc hb rfl, ⟨ee, u, u1, u2, u3, u4, fun j hj => bnk_same hc (u5 j hj) rfl⟩, fun s hs' => (hs s hs').imp id (fun h => bnk_same hc h rfl), hl, e25, hp⟩
theorem jP_mono {c c' : Nat} {G : jm_H} (hc : c ≤ c') (h : jP c G) : jP c' G := by
  obtain ⟨l, h0, hr⟩ := h
  exact ⟨l, jP0_mono hc h0, hr⟩
theorem jP_st {c : Nat} {G : jm_H} (h : jP c G) : jm_st G := by
  obtain ⟨l, h0, _⟩ := h
  exact h0.1
/-- the class's side is as it was -/
def jH (H0 G : jm_H) : Prop := jf_fr (fun r => 180 ≤ r) H0 G
theorem jH_pI {H0 G : jm_H} {r k : Nat} {v : Int32} (h : jH H0 G) (hr : 180 ≤ r) : jH H0 (jm_pI G r k v) := jf_fr_trans h (jf_fr_pI hr)
/-- what a call of the reference leaves -/
def jPH (c : Nat) (H0 G : jm_H) : Prop := jP c G ∧ jH H0 G
theorem md40 : ∀ z, z < 100 → nI z - nI z / 40 * 40 = nI (z % 40) := by decide +kernel
/-- twenty places copied, so many so far -/
def cpy (G0 : jm_H) (r o r' o' i : Nat) (G : jm_H) : Prop := jf_fr (fun q => q = r) G0 G ∧ (∀ k, k < i → jm_I G r (o + k) = jm_I G0 r' (o' + k)) ∧ ∀ k, ¬ (o ≤ k ∧ k < o + i) → jm_I G r k = jm_I G0 r k
theorem cpy_0 {G0 : jm_H} {r o r' o' : Nat} : cpy G0 r o r' o' 0 G0 := ⟨jf_fr_refl G0, fun k hk => absurd hk (Nat.not_lt_zero k), fun _ _ => rfl⟩
theorem cpy_s {G0 G : jm_H} {r o r' o' i : Nat} (hr : r ≠ r') (h : cpy G0 r o r' o' i G) : cpy G0 r o r' o' (i + 1) (jm_pI G r (o + i) (jm_I G r' (o' + i))) := by
  refine ⟨jf_fr_trans h.1 (jf_fr_pI rfl), fun k hk => ?_, fun k hk => ?_⟩
  · rw [jm_I_pI]
    by_cases g : k = i
    · rw [if_pos ⟨rfl, by omega⟩, g, (h.1.2.2.2.2 r' (fun q => hr q.symm)).1]
    · rw [if_neg (by omega)]
      exact h.2.1 k (by omega)
  · rw [jm_I_pI, if_neg (by omega)]
    exact h.2.2 k (by omega)
/-- places made nothing, so many so far -/
def zro (G0 : jm_H) (lo i : Nat) (G : jm_H) : Prop := jf_fr (fun q => q = 188) G0 G ∧ ∀ k, jm_I G 188 k = if lo ≤ k ∧ k < i then 0 else jm_I G0 188 k
theorem zro_s {G0 G : jm_H} {lo i : Nat} (hl : lo ≤ i) (h : zro G0 lo i G) : zro G0 lo (i + 1) (jm_pI G 188 i 0) := by
  refine ⟨jf_fr_trans h.1 (jf_fr_pI rfl), fun k => ?_⟩
  rw [jm_I_pI]
  by_cases g : k = i
  · rw [if_pos ⟨rfl, g⟩, if_pos (by omega)]
  · rw [if_neg (fun q => g q.2), h.2 k]
    by_cases q : lo ≤ k ∧ k < i
    · rw [if_pos q, if_pos (by omega)]
    · rw [if_neg q, if_neg (by omega)]
theorem nI_20 (m : Nat) : (20 : Int32) * nI m = nI (20 * m) := by
  rw [show (20 : Int32) = jI 20 from by decide, jI_n m, jI_mul, jI_n, show ((20 * m : Nat) : Int) = 20 * (m : Int) by omega]
section STAT
variable {S : Option (Nat × (Nat → Int32))} {H0 : jm_H} {c : Nat}
/-- works, behind a change of what lies there -/
theorem w186 {l : Nat} {G : jm_H} (h : jP0 c l G) (hH : jH H0 G) : jz (jPH c H0) jz_0 (fun Q => jm_c S 186 [.ref 180] G Q) := by
  obtain ⟨N, W, z, h1, h2, h3, h4, h5, _⟩ := h.2.2.1
  refine jz_mono (z186 (S := S) h.1 h1 h2 h3 h.2.2.2.2.2.1 h4 h5 h.2.2.2.2.2.2.1 h.2.2.2.2.2.2.2) (fun G' hv => ?_) (fun _ r => r)
  have hf := hv.1.1
  refine ⟨⟨l, jP0_same h hv.1.2.1 (fun r hr => (hf.2.2.2.2 r (by omega)).1) (fun k hk => hv.1.2.2 k (by omega)), N, h2, ?_, hv.2.2⟩, jf_fr_trans hH (jf_fr_mono hf (fun r hr => by omega))⟩
  rw [(hf.2.2.2.2 188 (by decide)).1]
  exact h4
theorem l158 {n0 : Nat} {x1 : Int32} (hn0 : n0 + 4 ≤ 2000) {G0 : jm_H} (st0 : jm_st G0) : ∀ (d i : Nat) {G : jm_H}, i + d = 4 → jf_fr (fun r => r = 180 ∨ r = 181) G0 G → (∀ k, k ≠ 2 → jm_I G 180 k = jm_I G0 180 k) → jm_I G 180 2 = nI (n0 + i) → jz (fun G' => jf_fr (fun r => r = 180 ∨ r = 181) G0 G' ∧ (∀ k, k ≠ 2 → jm_I G' 180 k = jm_I G0 180 k) ∧ jm_I G' 180 2 = nI (n0 + 4)) jz_0 (fun Q => jm_w S 1 158 3 [.ref 180, .int x1, .int (jI (24 - 8 * (i : Int)))] [] G Q)
  | 0, i, G, hd, f, fk, e => by
    obtain rfl : i = 4 := by omega
    refine jz_eq (fun _ => u158_3) (jz_if (fun _ => ?_) (fun c => absurd (by decide) c))
    exact jz_eq (fun _ => u158_36) (jz_end ⟨f, fk, e⟩ rfl)
  | d + 1, i, G, hd, f, fk, e => by
    have st := jf_fr_st f st0
    have r1 := st_r180_1 st
    refine jz_eq (fun _ => u158_3) (jz_if (fun c => ?_) (fun _ => ?_))
    · have := (jI_lt (b := 0) ⟨by omega, by omega⟩ (by decide)).mp c
      omega
    refine jz_eq (fun _ => u158_7 (st_t180 st) (by rw [r1]; decide) (by rw [e, r1, st_l181 st]; exact nI_inK (by omega) (by decide)) (by rw [r1]; exact st_t181 st)) ?_
    rw [r1, e, jm_I_pI, if_neg (by omega), e, nI_succK, show (-8 : Int32) = jI (-8) from by decide, jI_add, show (24 : Int) - 8 * (i : Int) + -8 = 24 - 8 * ((i + 1 : Nat) : Int) by omega]
    refine l158 hn0 st0 d (i + 1) (by omega) (jf_fr_trans f (jf_fr_trans (jf_fr_pI (Or.inr rfl)) (jf_fr_pI (Or.inl rfl)))) (fun k hk => ?_) ?_
    · rw [jm_I_pI, if_neg (by omega), jm_I_pI, if_neg (by omega)]
      exact fk k hk
    · rw [jm_I_pI, if_pos ⟨rfl, rfl⟩]
      rfl
theorem z158 {n0 : Nat} {x1 : Int32} (hn0 : n0 + 4 ≤ 2000) {G : jm_H} (st : jm_st G) (e : jm_I G 180 2 = nI n0) : jz (fun G' => jf_fr (fun r => r = 180 ∨ r = 181) G G' ∧ (∀ k, k ≠ 2 → jm_I G' 180 k = jm_I G 180 k) ∧ jm_I G' 180 2 = nI (n0 + 4)) jz_0 (fun Q => jm_c S 158 [.ref 180, .int x1] G Q) :=
  jz_eq (fun _ => en158.trans u158_0) (l158 (S := S) hn0 st 4 0 (by decide) (jf_fr_refl G) (fun _ _ => rfl) e)
theorem y158 {n0 : Nat} {x1 : Int32} (hn0 : n0 + 4 ≤ 2000) {G : jm_H} (h : jPH c H0 G) (e : jm_I G 180 2 = nI n0) : jz (fun G' => jPH c H0 G' ∧ jm_I G' 180 2 = nI (n0 + 4)) jz_0 (fun Q => jm_c S 158 [.ref 180, .int x1] G Q) := by
  refine jz_mono (z158 (S := S) hn0 (jP_st h.1) e) (fun G' hv => ⟨⟨?_, jf_fr_trans h.2 (jf_fr_mono hv.1 (fun r hr => by omega))⟩, hv.2.2⟩) (fun _ r => r)
  obtain ⟨l, h0, N, hN, eN, hr⟩ := h.1
  have st' := jf_fr_st hv.1 h0.1
  have eI : ∀ r, r ≠ 180 → r ≠ 181 → jm_I G' r = jm_I G r := fun r h1 h2 => (hv.1.2.2.2.2 r (fun q => q.elim h1 h2)).1
  obtain ⟨_, _, hb, ⟨ee, u, u1, u2, u3, u4, u5⟩, hs, hl, e25, hp⟩ := h0
  refine ⟨l, ⟨st', ⟨n0 + 4, by omega, hv.2.2⟩, bnk_same (Nat.le_refl _) hb (eI 188 (by decide) (by decide)), ⟨ee, u, u1, u2, by rw [hv.2.1 39 (by decide)]; exact u3, by rw [hv.2.1 40 (by decide)]; exact u4, fun j hj => bnk_same (Nat.le_refl _) (u5 j hj) (eI 202 (by decide) (by decide))⟩, fun s hs' => ?_, hl, by rw [hv.2.1 25 (by decide)]; exact e25, prg_same hp (eI 189 (by decide) (by decide)) (eI 190 (by decide) (by decide)) (eI 191 (by decide) (by decide))⟩, N, hN, by rw [eI 188 (by decide) (by decide)]; exact eN, fun j hj => by rw [eI 193 (by decide) (by decide)]; exact hr j hj⟩
  rw [eI 204 (by decide) (by decide)]
  exact (hs s hs').imp id (fun h => bnk_same (Nat.le_refl _) h (eI 203 (by decide) (by decide)))
theorem jP_len {G : jm_H} (h : jP c G) : ∃ n, n ≤ 2000 ∧ jm_I G 180 2 = nI n := by
  obtain ⟨l, h0, _⟩ := h
  exact h0.2.1
theorem z157 {x1 x2 x3 x4 x5 : Int32} {G : jm_H} (h : jPH c H0 G) : jz (jPH c H0) jz_I (fun Q => jm_c S 157 [.ref 180, .int x1, .int x2, .int x3, .int x4, .int x5] G Q) := by
  obtain ⟨n, hn, e⟩ := jP_len h.1
  have t0 : ∀ {G : jm_H}, jPH c H0 G → jm_tg G 180 = 13 := fun h => st_t180 (jP_st h.1)
  refine jz_eq (fun _ => en157.trans (u157_0 (t0 h))) ?_
  rw [e, show (20 : Int32) = nI 20 from rfl, nI_addN]
  refine jz_if (fun g => ?_) (fun _ => jz_eq (fun _ => u157_13) (jz_end h ⟨_, rfl⟩))
  have hn20 : n + 20 ≤ 2000 := (nI_leI (b := 2000) (by omega) (by decide)).mp g
  refine jz_eq (fun _ => u157_15 (t0 h)) (jz_call (y158 (by omega) h e) (fun v G h hv => ?_))
  obtain rfl := hv
  obtain ⟨h, e⟩ := h
  refine jz_eq (fun _ => u157_20 (t0 h)) (jz_call (y158 (by omega) h e) (fun v G h hv => ?_))
  obtain rfl := hv
  obtain ⟨h, e⟩ := h
  refine jz_eq (fun _ => u157_25 (t0 h)) (jz_call (y158 (by omega) h e) (fun v G h hv => ?_))
  obtain rfl := hv
  obtain ⟨h, e⟩ := h
  refine jz_eq (fun _ => u157_30 (t0 h)) (jz_call (y158 (by omega) h e) (fun v G h hv => ?_))
  obtain rfl := hv
  obtain ⟨h, e⟩ := h
  refine jz_eq (fun _ => u157_36 (t0 h)) (jz_call (y158 (by omega) h e) (fun v G h hv => ?_))
  obtain rfl := hv
  obtain ⟨h, e⟩ := h
  exact jz_eq (fun _ => u157_42 (t0 h)) (jz_end h ⟨_, rfl⟩)
theorem jP_2 {G : jm_H} {v : Nat} (hv : v ≤ 2000) (h : jPH c H0 G) : jPH c H0 (jm_pI G 180 2 (nI v)) := by
  refine ⟨?_, jH_pI h.2 (by decide)⟩
  obtain ⟨l, h0, N, hN, eN, hr⟩ := h.1
  have eI : ∀ r k, r ≠ 180 ∨ k ≠ 2 → jm_I (jm_pI G 180 2 (nI v)) r k = jm_I G r k := fun r k h1 => by rw [jm_I_pI, if_neg (by omega)]
  have eF : ∀ r, r ≠ 180 → jm_I (jm_pI G 180 2 (nI v)) r = jm_I G r := fun r h1 => funext fun k => eI r k (Or.inl h1)
  obtain ⟨st, _, hb, ⟨ee, u, u1, u2, u3, u4, u5⟩, hs, hl, e25, hp⟩ := h0
  refine ⟨l, ⟨jf_fr_st (P := fun _ => True) (jf_fr_pI trivial) st, ⟨v, hv, by rw [jm_I_pI, if_pos ⟨rfl, rfl⟩]⟩, bnk_same (Nat.le_refl _) hb (eF 188 (by decide)), ⟨ee, u, u1, u2, by rw [eI _ _ (by decide)]; exact u3, by rw [eI _ _ (by decide)]; exact u4, fun j hj => bnk_same (Nat.le_refl _) (u5 j hj) (eF 202 (by decide))⟩, fun s hs' => ?_, hl, by rw [eI _ _ (by decide)]; exact e25, prg_same hp (eF 189 (by decide)) (eF 190 (by decide)) (eF 191 (by decide))⟩, N, hN, by rw [eI _ _ (by decide)]; exact eN, fun j hj => by rw [eI _ _ (Or.inl (by decide))]; exact hr j hj⟩
  rw [eI _ _ (Or.inl (by decide))]
  exact (hs s hs').imp id (fun h => bnk_same (Nat.le_refl _) h (eF 203 (by decide)))
theorem z159 {x1 : Int32} {G : jm_H} (h : jPH c H0 G) : jz (jPH c H0) jz_I (fun Q => jm_c S 159 [.ref 180, .int x1] G Q) := by
  obtain ⟨n, hn, e⟩ := jP_len h.1
  have t0 := st_t180 (jP_st h.1)
  have h12 : jz (jPH c H0) jz_I (fun Q => jm_w S 1 159 12 [.ref 180, .int x1] [] G Q) := jz_eq (fun _ => u159_12) (jz_end h ⟨_, rfl⟩)
  refine jz_eq (fun _ => en159.trans u159_0) (jz_if (fun _ => h12) (fun c1 => ?_))
  refine jz_eq (fun _ => u159_4 t0) ?_
  rw [e]
  refine jz_if (fun c2 => ?_) (fun _ => h12)
  have h0 := ti_lt0 c1
  have h2 : x1.toInt ≤ n := by
    have := Int32.le_iff_toInt_le.mp c2
    rw [nI_toInt (by omega)] at this
    exact this
  obtain ⟨m, hm, rfl⟩ := ji_nn (k := n + 1) h0 (by omega)
  refine jz_eq (fun _ => u159_14 t0) ?_
  rw [e, pk_sub (by omega)]
  exact jz_end (jP_2 (by omega) h) ⟨_, rfl⟩
theorem z211 {G : jm_H} (h : jPH c H0 G) : jz (jPH c H0) jz_I (fun Q => jm_c S 211 [.ref 180] G Q) := jz_eq (fun _ => en211.trans (u211_0 (st_t180 (jP_st h.1)))) (jz_end h ⟨_, rfl⟩)
/-- what is remembered -/
def mrk (G0 : jm_H) (c l : Nat) (G : jm_H) : Prop := jP0 c l G ∧ jf_fr (fun r => r = 180 ∨ r = 202) G0 G ∧ ∀ k, k ≠ 39 → k ≠ 40 → jm_I G 180 k = jm_I G0 180 k
theorem l218 {e u l : Nat} {G0 : jm_H} (he : e < 40) (hu : u < 40) (h0 : jP0 c l G0) (eu : und G0 e u c) : ∀ (d i : Nat) {G : jm_H}, i + d = 20 → cpy G0 202 (20 * ((e + u) % 40)) 188 0 i G → jz (mrk G0 c l) jz_0 (fun Q => jm_w S 1 218 50 [.ref 180, .int (nI (20 * ((e + u) % 40))), .int (nI i)] [] G Q)
  | 0, i, G, hd, hG => by
    obtain rfl : i = 20 := by omega
    have st := jf_fr_st hG.1 h0.1
    have hm : (e + u) % 40 < 40 := Nat.mod_lt _ (by decide)
    have e180 : jm_I G 180 = jm_I G0 180 := (hG.1.2.2.2.2 180 (by decide)).1
    have eI : ∀ r, r ≠ 202 → jm_I G r = jm_I G0 r := fun r hr => (hG.1.2.2.2.2 r hr).1
    obtain ⟨_, h2, hb, _, hs, hl, e25, hp⟩ := h0
    obtain ⟨u1, u2, u3, u4, u5⟩ := eu
    refine jz_eq (fun _ => u218_50) (jz_if (fun _ => ?_) (fun c => absurd (by decide) c))
    refine jz_eq (fun _ => u218_76 (st_t180 st)) ?_
    rw [e180, u4, nI_succK]
    have eF : ∀ r, r ≠ 180 → jm_I (jm_pI G 180 40 (nI (u + 1))) r = jm_I G r := fun r h1 => funext fun k => by rw [jm_I_pI, if_neg (by omega)]
    have eK : ∀ k, k ≠ 40 → jm_I (jm_pI G 180 40 (nI (u + 1))) 180 k = jm_I G0 180 k := fun k hk => by rw [jm_I_pI, if_neg (by omega), e180]
    refine jz_end ⟨⟨jf_fr_st (P := fun _ => True) (jf_fr_pI trivial) st, ?_, bnk_same (Nat.le_refl _) hb (by rw [eF _ (by decide), eI _ (by decide)]), ⟨e, u + 1, he, by omega, by rw [eK _ (by decide)]; exact u3, by rw [jm_I_pI, if_pos ⟨rfl, rfl⟩], fun j hj => ?_⟩, fun s hs' => ?_, hl, by rw [eK _ (by decide)]; exact e25, prg_same hp (by rw [eF _ (by decide), eI _ (by decide)]) (by rw [eF _ (by decide), eI _ (by decide)]) (by rw [eF _ (by decide), eI _ (by decide)])⟩, jf_fr_trans (jf_fr_mono hG.1 (fun r hr => Or.inr hr)) (jf_fr_pI (Or.inl rfl)), fun k h39 h40 => eK k h40⟩ rfl
    · obtain ⟨n, hn, e2⟩ := h2
      exact ⟨n, hn, by rw [eK _ (by decide)]; exact e2⟩
    · by_cases g : j = u
      · subst g
        refine bnk_cp (Nat.le_refl _) hb (fun k hk => ?_)
        rw [eF _ (by decide), hG.2.1 k hk]
      · refine bnk_cp (Nat.le_refl _) (u5 j (by omega)) (fun k hk => ?_)
        have hne : (e + j) % 40 ≠ (e + u) % 40 := by omega
        rw [eF _ (by decide)]
        exact hG.2.2 _ (by omega)
    · rw [eF _ (by decide), eI _ (by decide)]
      exact (hs s hs').imp id (fun h => bnk_same (Nat.le_refl _) h (by rw [eF _ (by decide), eI _ (by decide)]))
  | d + 1, i, G, hd, hG => by
    have st := jf_fr_st hG.1 h0.1
    have hm : (e + u) % 40 < 40 := Nat.mod_lt _ (by decide)
    have r38 := st_r180_38 st
    have r17 := st_r180_17 st
    refine jz_eq (fun _ => u218_50) (jz_if (fun g => ?_) (fun _ => ?_))
    · have := (nI_leI (a := 20) (by decide) (by omega)).mp g
      omega
    refine jz_eq (fun _ => u218_56 (st_t180 st) (by rw [r38]; decide) (by rw [r17]; decide) (by rw [r17, st_l188 st]; exact nI_inK (by omega) (by decide)) (by rw [r17]; decide) (by rw [r17]; exact st_t188 st) (by rw [nI_addN, r38, st_l202 st]; exact nI_inK (by omega) (by decide)) (by rw [r38]; exact st_t202 st)) ?_
    rw [r38, r17, nI_addN, nI_cl (k := 20 * ((e + u) % 40) + i) (by omega), nI_cl (k := i) (by omega), nI_succK]
    have := cpy_s (by decide) hG
    rw [Nat.zero_add] at this
    exact l218 he hu h0 eu d (i + 1) (by omega) this
theorem z218 {l : Nat} {G : jm_H} (h : jP0 c l G) : jz (mrk G c l) jz_0 (fun Q => jm_c S 218 [.ref 180] G Q) := by
  have t0 := st_t180 h.1
  obtain ⟨e, u, hu⟩ := h.2.2.2.1
  have h' := h
  obtain ⟨u1, u2, u3, u4, u5⟩ := hu
  have go : ∀ {e u : Nat} {G1 : jm_H}, u < 40 → und G1 e u c → jP0 c l G1 → jz (mrk G1 c l) jz_0 (fun Q => jm_w S 1 218 32 [.ref 180, .null, .null] [] G1 Q) := by
    intro e u G1 hu hun h1
    refine jz_eq (fun _ => u218_32 (st_t180 h1.1)) ?_
    have a1 := hun.1
    rw [hun.2.2.1, hun.2.2.2.1, nI_addN, md40 _ (by omega), nI_20]
    exact l218 (S := S) hun.1 hu h1 hun 20 0 (by decide) cpy_0
  refine jz_eq (fun _ => en218.trans (u218_0 t0)) ?_
  rw [u4]
  refine jz_if (fun g => ?_) (fun g => ?_)
  · have : u ≠ 40 := fun q => g (by rw [q]; rfl)
    exact go (by omega) ⟨u1, u2, u3, u4, u5⟩ h
  · have hu40 : u = 40 := by
      by_cases q : u = 40
      · exact q
      · exact absurd (fun r => q ((nI_eqI (b := 40) (by omega) (by decide)).mp r)) g
    subst hu40
    refine jz_eq (fun _ => u218_9 t0) ?_
    have e40 : ∀ v, jm_I (jm_pI G 180 39 v) 180 40 = nI 40 := fun v => by rw [jm_I_pI, if_neg (by decide)]; exact u4
    rw [u3, nI_succK, md40 _ (by omega), e40, nI_prd 39]
    have eF : ∀ r, r ≠ 180 → jm_I (jm_pI (jm_pI G 180 39 (nI ((e + 1) % 40))) 180 40 (nI 39)) r = jm_I G r := fun r h1 => funext fun k => by rw [jm_I_pI, if_neg (by omega), jm_I_pI, if_neg (by omega)]
    have eK : ∀ k, k ≠ 39 → k ≠ 40 → jm_I (jm_pI (jm_pI G 180 39 (nI ((e + 1) % 40))) 180 40 (nI 39)) 180 k = jm_I G 180 k := fun k h1 h2 => by rw [jm_I_pI, if_neg (by omega), jm_I_pI, if_neg (by omega)]
    have fr : jf_fr (fun r => r = 180 ∨ r = 202) G (jm_pI (jm_pI G 180 39 (nI ((e + 1) % 40))) 180 40 (nI 39)) := jf_fr_trans (jf_fr_pI (Or.inl rfl)) (jf_fr_pI (Or.inl rfl))
    have hun : und (jm_pI (jm_pI G 180 39 (nI ((e + 1) % 40))) 180 40 (nI 39)) ((e + 1) % 40) 39 c := by
      refine ⟨Nat.mod_lt _ (by decide), by decide, by rw [jm_I_pI, if_neg (by decide), jm_I_pI, if_pos ⟨rfl, rfl⟩], by rw [jm_I_pI, if_pos ⟨rfl, rfl⟩], fun j hj => ?_⟩
      have := u5 (j + 1) (by omega)
      rw [show ((e + 1) % 40 + j) % 40 = (e + (j + 1)) % 40 by omega]
      exact bnk_same (Nat.le_refl _) this (eF 202 (by decide))
    obtain ⟨st, ⟨n, hn, e2⟩, hb, _, hs, hl, e25, hp⟩ := h
    have hP : jP0 c l (jm_pI (jm_pI G 180 39 (nI ((e + 1) % 40))) 180 40 (nI 39)) := by
      refine ⟨jf_fr_st fr st, ⟨n, hn, by rw [eK _ (by decide) (by decide)]; exact e2⟩, bnk_same (Nat.le_refl _) hb (eF 188 (by decide)), ⟨_, _, hun⟩, fun s hs' => ?_, hl, by rw [eK _ (by decide) (by decide)]; exact e25, prg_same hp (eF 189 (by decide)) (eF 190 (by decide)) (eF 191 (by decide))⟩
      rw [eF _ (by decide)]
      exact (hs s hs').imp id (fun h => bnk_same (Nat.le_refl _) h (eF 203 (by decide)))
    refine jz_mono (go (by decide) hun hP) (fun G' hm => ⟨hm.1, jf_fr_trans fr hm.2.1, fun k h1 h2 => (hm.2.2 k h1 h2).trans (eK k h1 h2)⟩) (fun _ r => r)
/-- remembered: with what stands about it -/
theorem y218 {l N : Nat} {G : jm_H} (h : jP0 c l G) (hr : N ≤ 12 ∧ jm_I G 188 0 = nI N ∧ rws G N l) (hH : jH H0 G) : jz (fun G' => jP0 c l G' ∧ (N ≤ 12 ∧ jm_I G' 188 0 = nI N ∧ rws G' N l) ∧ jH H0 G' ∧ jm_I G' 188 = jm_I G 188) jz_0 (fun Q => jm_c S 218 [.ref 180] G Q) := by
  refine jz_mono (z218 (S := S) h) (fun G' hm => ?_) (fun _ r => r)
  have eI : ∀ r, r ≠ 180 → r ≠ 202 → jm_I G' r = jm_I G r := fun r h1 h2 => (hm.2.1.2.2.2.2 r (fun q => q.elim h1 h2)).1
  exact ⟨hm.1, ⟨hr.1, by rw [eI 188 (by decide) (by decide)]; exact hr.2.1, fun j hj => by rw [eI 193 (by decide) (by decide)]; exact hr.2.2 j hj⟩, jf_fr_trans hH (jf_fr_mono hm.2.1 (fun r hr => by omega)), eI 188 (by decide) (by decide)⟩
/-- what lies there is another, all else as it was -/
theorem jP0_now {c' l : Nat} {G G' : jm_H} (hc : c ≤ c') (h : jP0 c l G) (f : jf_fr (fun r => r = 188) G G') (hb : bnk G' 188 0 c') : jP0 c' l G' := by
  have eI : ∀ r, r ≠ 188 → jm_I G' r = jm_I G r := fun r h1 => (f.2.2.2.2 r h1).1
  obtain ⟨st, ⟨n, hn, e2⟩, _, ⟨ee, u, u1, u2, u3, u4, u5⟩, hs, hl, e25, hp⟩ := h
  refine ⟨jf_fr_st f st, ⟨n, hn, by rw [eI _ (by decide)]; exact e2⟩, hb, ⟨ee, u, u1, u2, by rw [eI _ (by decide)]; exact u3, by rw [eI _ (by decide)]; exact u4, fun j hj => bnk_same hc (u5 j hj) (eI 202 (by decide))⟩, fun s hs' => ?_, hl, by rw [eI _ (by decide)]; exact e25, prg_same hp (eI 189 (by decide)) (eI 190 (by decide)) (eI 191 (by decide))⟩
  rw [eI _ (by decide)]
  exact (hs s hs').imp id (fun h => bnk_same hc h (eI 203 (by decide)))
theorem z216 {x1 x2 : Int32} {G : jm_H} (h : jPH c H0 G) : jz (jPH c H0) jz_I (fun Q => jm_c S 216 [.ref 180, .int x1, .int x2] G Q) := by
  have st := jP_st h.1
  have r17 := st_r180_17 st
  have h28 : jz (jPH c H0) jz_I (fun Q => jm_w S 9 216 28 [.ref 180, .int x1, .int x2] [] G Q) := jz_eq (fun _ => u216_28) (jz_end h ⟨_, rfl⟩)
  refine jz_eq (fun _ => en216.trans (u216_0.trans (c217 x1 x2))) ?_
  by_cases hz : jr_sz x1 x2
  · rw [if_pos hz]
    refine jz_eq (fun _ => u216_5) (jz_if (fun _ => h28) (fun _ => ?_))
    have h30 : jz (jPH c H0) jz_I (fun Q => jm_w S 9 216 30 [.ref 180, .int x1, .int x2] [] G Q) := by
      obtain ⟨l, h0, N, hN, eN, hr⟩ := h.1
      refine jz_eq (fun _ => u216_30 (st_t180 st)) (jz_call (y218 h0 ⟨hN, eN, hr⟩ h.2) (fun v G1 hm hv => ?_))
      obtain rfl := hv
      obtain ⟨h1, _, hH1, _⟩ := hm
      have st1 := h1.1
      have r17 := st_r180_17 st1
      refine jz_eq (fun _ => u216_34 (st_t180 st1) (by rw [r17]; decide) (by rw [r17, st_l188 st1]; decide) (by rw [r17]; exact st_t188 st1) (by rw [r17, st_l188 st1]; decide)) ?_
      rw [r17, show Int32.toNatClampNeg 0 = 0 from by decide, show Int32.toNatClampNeg 1 = 1 from by decide]
      obtain ⟨N', W', z, b1, b2, b3, b4, b5, b6, b7, b8⟩ := h1.2.2.1
      obtain ⟨z1, z2, z3, z4⟩ := hz
      obtain ⟨M, hM, rfl⟩ := ji_nn (k := 13) (x := x1) (by omega) (by omega)
      obtain ⟨V, hV, rfl⟩ := ji_nn (k := 3) (x := x2) (by omega) (by omega)
      rw [nI_toInt (by omega)] at z1
      have f : jf_fr (fun r => r = 188) G1 (jm_pI (jm_pI G1 188 0 (nI M)) 188 1 (nI V)) := jf_fr_trans (jf_fr_pI rfl) (jf_fr_pI rfl)
      have h2 : jP0 c l (jm_pI (jm_pI G1 188 0 (nI M)) 188 1 (nI V)) := by
        refine jP0_now (Nat.le_refl _) h1 f ⟨M, V, z, by omega, by omega, by omega, ?_, ?_, ?_, fun k hk => ?_, b8⟩
        · rw [jm_I_pI, if_neg (by decide), jm_I_pI, if_pos ⟨rfl, rfl⟩]
        · rw [jm_I_pI, if_pos ⟨rfl, rfl⟩]
        · rw [jm_I_pI, if_neg (by decide), jm_I_pI, if_neg (by decide)]; exact b6
        · rw [jm_I_pI, if_neg (by omega), jm_I_pI, if_neg (by omega)]; exact b7 k hk
      refine jz_call (w186 h2 (jH_pI (jH_pI hH1 (by decide)) (by decide))) (fun v G2 h2 hv => ?_)
      obtain rfl := hv
      exact jz_eq (fun _ => u216_52) (jz_end h2 ⟨_, rfl⟩)
    refine jz_eq (fun _ => u216_8 (st_t180 st) (by rw [r17]; decide) (by rw [r17, st_l188 st]; decide) (by rw [r17]; decide) (by rw [r17]; exact st_t188 st)) (jz_if (fun _ => h30) (fun _ => ?_))
    exact jz_eq (fun _ => u216_18 (st_t180 st) (by rw [r17]; decide) (by rw [r17, st_l188 st]; decide) (by rw [r17]; decide) (by rw [r17]; exact st_t188 st)) (jz_if (fun _ => h30) (fun _ => h28))
  · rw [if_neg hz]
    exact jz_eq (fun _ => u216_5) (jz_if (fun _ => h28) (fun c => absurd rfl c))
/-- out of what is remembered, held -/
theorem l213 {l r o cc : Nat} {G0 : jm_H} (hr : (r = 202 ∧ o + 20 ≤ 800) ∨ (r = 203 ∧ o + 20 ≤ 60)) (h0 : jP0 cc l G0) (hb : bnk G0 r o cc) (hH : jH H0 G0) : ∀ (d i : Nat) {G : jm_H}, i + d = 20 → cpy G0 188 0 r o i G → jz (jPH cc H0) jz_0 (fun Q => jm_w S 9 213 2 [.ref 180, .ref r, .int (nI o), .int (nI i)] [] G Q)
  | 0, i, G, hd, hG => by
    obtain rfl : i = 20 := by omega
    have st := jf_fr_st hG.1 h0.1
    refine jz_eq (fun _ => u213_2) (jz_if (fun _ => ?_) (fun c => absurd (by decide) c))
    have h2 : jP0 cc l G := jP0_now (Nat.le_refl _) h0 hG.1 (bnk_cp (Nat.le_refl _) hb (fun k hk => hG.2.1 k hk))
    refine jz_eq (fun _ => u213_25 (st_t180 st)) (jz_call (w186 h2 (jf_fr_trans hH (jf_fr_mono hG.1 (fun r hr => by omega)))) (fun v G2 h2 hv => ?_))
    obtain rfl := hv
    exact jz_eq (fun _ => u213_29) (jz_end h2 rfl)
  | d + 1, i, G, hd, hG => by
    have st := jf_fr_st hG.1 h0.1
    have r17 := st_r180_17 st
    have ht : jm_tg G r = 100 ∧ o + 20 ≤ jm_ln G r ∧ jm_ln G r ≤ 800 := by
      rcases hr with ⟨rfl, ho⟩ | ⟨rfl, ho⟩
      · rw [st_l202 st]; exact ⟨st_t202 st, ho, Nat.le_refl _⟩
      · rw [st_l203 st]; exact ⟨st_t203 st, ho, by decide⟩
    refine jz_eq (fun _ => u213_2) (jz_if (fun g => ?_) (fun _ => ?_))
    · have := (nI_leI (a := 20) (by decide) (by omega)).mp g
      omega
    refine jz_eq (fun _ => u213_8 (st_t180 st) (by rw [r17]; decide) (by rw [nI_addN]; exact nI_inK (by omega) (by omega)) (by omega) ht.1 (by rw [r17, st_l188 st]; exact nI_inK (by omega) (by decide)) (by rw [r17]; exact st_t188 st)) ?_
    rw [r17, nI_addN, nI_cl (k := o + i) (by omega), nI_cl (k := i) (by omega), nI_succK]
    have := cpy_s (by omega) hG
    rw [Nat.zero_add] at this
    exact l213 hr h0 hb hH d (i + 1) (by omega) this
theorem z213 {l r o cc : Nat} {G : jm_H} (hr : (r = 202 ∧ o + 20 ≤ 800) ∨ (r = 203 ∧ o + 20 ≤ 60)) (h0 : jP0 cc l G) (hb : bnk G r o cc) (hH : jH H0 G) : jz (jPH cc H0) jz_0 (fun Q => jm_c S 213 [.ref 180, .ref r, .int (nI o)] G Q) := jz_eq (fun _ => en213.trans u213_0) (l213 (S := S) hr h0 hb hH 20 0 (by decide) cpy_0)
/-- undone things by number: fewer -/
theorem jP0_40 {l u' : Nat} {G : jm_H} (h : jP0 c l G) (hu : ∀ e u, und G e u c → u' ≤ u) : jP0 c l (jm_pI G 180 40 (nI u')) := by
  have eF : ∀ r, r ≠ 180 → jm_I (jm_pI G 180 40 (nI u')) r = jm_I G r := fun r h1 => funext fun k => by rw [jm_I_pI, if_neg (by omega)]
  have eK : ∀ k, k ≠ 40 → jm_I (jm_pI G 180 40 (nI u')) 180 k = jm_I G 180 k := fun k h1 => by rw [jm_I_pI, if_neg (by omega)]
  obtain ⟨st, ⟨n, hn, e2⟩, hb, ⟨e, u, hun⟩, hs, hl, e25, hp⟩ := h
  have hle := hu e u hun
  obtain ⟨u1, u2, u3, u4, u5⟩ := hun
  refine ⟨jf_fr_st (P := fun _ => True) (jf_fr_pI trivial) st, ⟨n, hn, by rw [eK _ (by decide)]; exact e2⟩, bnk_same (Nat.le_refl _) hb (eF 188 (by decide)), ⟨e, u', u1, by omega, by rw [eK _ (by decide)]; exact u3, by rw [jm_I_pI, if_pos ⟨rfl, rfl⟩], fun j hj => bnk_same (Nat.le_refl _) (u5 j (by omega)) (eF 202 (by decide))⟩, fun s hs' => ?_, hl, by rw [eK _ (by decide)]; exact e25, prg_same hp (eF 189 (by decide)) (eF 190 (by decide)) (eF 191 (by decide))⟩
  rw [eF _ (by decide)]
  exact (hs s hs').imp id (fun h => bnk_same (Nat.le_refl _) h (eF 203 (by decide)))
theorem z212 {G : jm_H} (h : jPH c H0 G) : jz (jPH c H0) jz_I (fun Q => jm_c S 212 [.ref 180] G Q) := by
  have st := jP_st h.1
  have t0 := st_t180 st
  obtain ⟨l, h0, hr⟩ := h.1
  obtain ⟨e, u, hun⟩ := h0.2.2.2.1
  obtain ⟨u1, u2, u3, u4, u5⟩ := hun
  refine jz_eq (fun _ => en212.trans (u212_0 t0)) ?_
  rw [u4]
  refine jz_if (fun g => ?_) (fun _ => jz_eq (fun _ => u212_7) (jz_end h ⟨_, rfl⟩))
  have hu : u ≠ 0 := fun q => g (by rw [q]; rfl)
  obtain ⟨v, rfl⟩ : ∃ v, u = v + 1 := ⟨u - 1, by omega⟩
  have r38 := st_r180_38 st
  refine jz_eq (fun _ => u212_9 t0 (by rw [r38]; decide)) ?_
  have e39 : ∀ w, jm_I (jm_pI G 180 40 w) 180 39 = nI e := fun w => by rw [jm_I_pI, if_neg (by decide)]; exact u3
  have e40 : ∀ w, jm_I (jm_pI G 180 40 w) 180 40 = w := fun w => by rw [jm_I_pI, if_pos ⟨rfl, rfl⟩]
  rw [u4, nI_prd, e39, e40, nI_addN, md40 _ (by omega), nI_20, r38]
  have hm : (e + v) % 40 < 40 := Nat.mod_lt _ (by decide)
  have h1 : jP0 c l (jm_pI G 180 40 (nI v)) := jP0_40 h0 (fun e' u' hun' => by
    have := hun'.2.2.2.1
    rw [u4] at this
    have := (nI_eqI (by omega) (by have := hun'.2.1; omega)).mp this
    omega)
  have hb : bnk (jm_pI G 180 40 (nI v)) 202 (20 * ((e + v) % 40)) c := bnk_same (Nat.le_refl _) (u5 v (by omega)) (funext fun k => by rw [jm_I_pI, if_neg (by omega)])
  refine jz_call (z213 (Or.inl ⟨rfl, by omega⟩) h1 hb (jH_pI h.2 (by decide))) (fun w G2 h2 hv => ?_)
  obtain rfl := hv
  exact jz_eq (fun _ => u212_42) (jz_end h2 ⟨_, rfl⟩)
theorem l214 {s : Nat} {G0 : jm_H} (hs : s < 3) (h : jPH c H0 G0) : ∀ (d i : Nat) {G : jm_H}, i + d = 20 → cpy G0 203 (20 * s) 188 0 i G → jz (jPH c H0) jz_I (fun Q => jm_w S 2 214 13 [.ref 180, .int (nI s), .int (nI i)] [] G Q)
  | 0, i, G, hd, hG => by
    obtain rfl : i = 20 := by omega
    have st := jf_fr_st hG.1 (jP_st h.1)
    have r42 := st_r180_42 st
    refine jz_eq (fun _ => u214_13) (jz_if (fun _ => ?_) (fun c => absurd (by decide) c))
    refine jz_eq (fun _ => u214_42 (st_t180 st) (by rw [r42]; decide) (by rw [r42, st_l204 st]; exact nI_inK hs (by decide)) (by rw [r42]; exact st_t204 st)) ?_
    rw [r42, nI_cl (by omega)]
    have eI : ∀ r, r ≠ 203 → r ≠ 204 → jm_I (jm_pI G 204 s 1) r = jm_I G0 r := fun r h1 h2 => by
      rw [← (hG.1.2.2.2.2 r h1).1]
      funext k
      rw [jm_I_pI, if_neg (by omega)]
    obtain ⟨l, ⟨st0, ⟨n, hn, e2⟩, hb, ⟨ee, u, u1, u2, u3, u4, u5⟩, hss, hl, e25, hp⟩, N, hN, eN, hr⟩ := h.1
    refine jz_end ⟨⟨l, ⟨jf_fr_st (P := fun _ => True) (jf_fr_pI trivial) st, ⟨n, hn, by rw [eI _ (by decide) (by decide)]; exact e2⟩, bnk_same (Nat.le_refl _) hb (eI 188 (by decide) (by decide)), ⟨ee, u, u1, u2, by rw [eI _ (by decide) (by decide)]; exact u3, by rw [eI _ (by decide) (by decide)]; exact u4, fun j hj => bnk_same (Nat.le_refl _) (u5 j hj) (eI 202 (by decide) (by decide))⟩, fun s' hs' => ?_, hl, by rw [eI _ (by decide) (by decide)]; exact e25, prg_same hp (eI 189 (by decide) (by decide)) (eI 190 (by decide) (by decide)) (eI 191 (by decide) (by decide))⟩, N, hN, by rw [eI _ (by decide) (by decide)]; exact eN, fun j hj => by rw [eI 193 (by decide) (by decide)]; exact hr j hj⟩, jH_pI (jf_fr_trans h.2 (jf_fr_mono hG.1 (fun r hr => by omega))) (by decide)⟩ ⟨_, rfl⟩
    by_cases g : s' = s
    · subst g
      refine Or.inr (bnk_cp (Nat.le_refl _) hb (fun k hk => ?_))
      rw [jm_I_pI, if_neg (by omega)]
      exact hG.2.1 k hk
    · rcases hss s' hs' with q | q
      · refine Or.inl ?_
        rw [jm_I_pI, if_neg (fun q => g q.2), (hG.1.2.2.2.2 204 (by decide)).1]
        exact q
      · refine Or.inr (bnk_cp (Nat.le_refl _) q (fun k hk => ?_))
        rw [jm_I_pI, if_neg (by omega)]
        exact hG.2.2 _ (by omega)
  | d + 1, i, G, hd, hG => by
    have st := jf_fr_st hG.1 (jP_st h.1)
    have r41 := st_r180_41 st
    have r17 := st_r180_17 st
    refine jz_eq (fun _ => u214_13) (jz_if (fun g => ?_) (fun _ => ?_))
    · have := (nI_leI (a := 20) (by decide) (by omega)).mp g
      omega
    refine jz_eq (fun _ => u214_19 (st_t180 st) (by rw [r41]; decide) (by rw [r17]; decide) (by rw [r17, st_l188 st]; exact nI_inK (by omega) (by decide)) (by rw [r17]; decide) (by rw [r17]; exact st_t188 st) (by rw [nI_20, nI_addN, r41, st_l203 st]; exact nI_inK (by omega) (by decide)) (by rw [r41]; exact st_t203 st)) ?_
    rw [r41, r17, nI_20, nI_addN, nI_cl (k := 20 * s + i) (by omega), nI_cl (k := i) (by omega), nI_succK]
    have := cpy_s (by decide) hG
    rw [Nat.zero_add] at this
    exact l214 hs h d (i + 1) (by omega) this
theorem sl3 {x : Int32} (h : (0 : Int32).toInt ≤ x.toInt ∧ x.toInt ≤ (2 : Int32).toInt) : ∃ s, s < 3 ∧ x = nI s := by
  rw [i32_0, show (2 : Int32).toInt = 2 from by decide] at h
  exact ji_nn (k := 3) h.1 (by omega)
theorem z214 {x1 : Int32} {G : jm_H} (h : jPH c H0 G) : jz (jPH c H0) jz_I (fun Q => jm_c S 214 [.ref 180, .int x1] G Q) := by
  refine jz_eq (fun _ => en214.trans (u214_0.trans (c176 _ _ _))) ?_
  by_cases g : (0 : Int32).toInt ≤ x1.toInt ∧ x1.toInt ≤ (2 : Int32).toInt
  · rw [if_pos g]
    obtain ⟨s, hs, rfl⟩ := sl3 g
    refine jz_eq (fun _ => u214_6) (jz_if (fun _ => ?_) (fun c => absurd (show ¬ (1 : Int32) = 0 by decide) c))
    exact jz_eq (fun _ => u214_11) (l214 (S := S) hs h 20 0 (by decide) cpy_0)
  · rw [if_neg g]
    exact jz_eq (fun _ => u214_6) (jz_if (fun c => absurd rfl c) (fun _ => jz_eq (fun _ => u214_9) (jz_end h ⟨_, rfl⟩)))
theorem z215 {x1 : Int32} {G : jm_H} (h : jPH c H0 G) : jz (jPH c H0) jz_I (fun Q => jm_c S 215 [.ref 180, .int x1] G Q) := by
  have st := jP_st h.1
  have h18 : jz (jPH c H0) jz_I (fun Q => jm_w S 10 215 18 [.ref 180, .int x1] [] G Q) := jz_eq (fun _ => u215_18) (jz_end h ⟨_, rfl⟩)
  refine jz_eq (fun _ => en215.trans (u215_0.trans (c176 _ _ _))) ?_
  by_cases g : (0 : Int32).toInt ≤ x1.toInt ∧ x1.toInt ≤ (2 : Int32).toInt
  · rw [if_pos g]
    obtain ⟨s, hs, rfl⟩ := sl3 g
    have r42 := st_r180_42 st
    have r41 := st_r180_41 st
    refine jz_eq (fun _ => u215_6) (jz_if (fun c => absurd c (by decide)) (fun _ => ?_))
    refine jz_eq (fun _ => u215_9 (st_t180 st) (by rw [r42]; decide) (by rw [r42, st_l204 st]; exact nI_inK hs (by decide)) (by rw [r42]; exact Or.inr (st_t204 st))) ?_
    rw [r42, nI_cl (by omega)]
    refine jz_if (fun g4 => ?_) (fun _ => h18)
    obtain ⟨l, h0, hr⟩ := h.1
    have hb := (h0.2.2.2.2.1 s hs).resolve_left g4
    refine jz_eq (fun _ => u215_20 (st_t180 st) (by rw [r41]; decide)) ?_
    rw [r41, nI_20]
    refine jz_call (z213 (Or.inr ⟨rfl, by omega⟩) h0 hb h.2) (fun w G2 h2 hv => ?_)
    obtain rfl := hv
    refine jz_eq (fun _ => u215_32 (st_t180 (jP_st h2.1))) (jz_end ⟨?_, jH_pI h2.2 (by decide)⟩ ⟨_, rfl⟩)
    obtain ⟨l2, h3, N, hN, eN, hr⟩ := h2.1
    exact ⟨l2, jP0_40 (u' := 0) h3 (fun _ _ _ => Nat.zero_le _), N, hN, by rw [jm_I_pI, if_neg (by decide)]; exact eN, fun j hj => by rw [jm_I_pI, if_neg (by omega)]; exact hr j hj⟩
  · rw [if_neg g]
    exact jz_eq (fun _ => u215_6) (jz_if (fun _ => h18) (fun c => absurd rfl c))
theorem bnk_0 {G0 G : jm_H} {hi : Nat} (h : bnk G0 188 0 c) (hz : zro G0 2 20 G) : bnk G 188 0 c := by
  obtain ⟨N, W, z, b1, b2, b3, b4, b5, b6, b7, b8⟩ := h
  refine ⟨N, W, 0, b1, b2, b3, ?_, ?_, ?_, fun k hk => ?_, Nat.zero_le _⟩
  · rw [hz.2, if_neg (by omega)]; exact b4
  · rw [hz.2, if_neg (by omega)]; exact b5
  · rw [hz.2, if_pos (by omega)]; rfl
  · rw [hz.2, if_pos (by omega), show (0 : Int).natAbs = 0 from rfl, jq_d0]; rfl
theorem l222 {l N : Nat} {G0 : jm_H} (h0 : jP0 c l G0) (hr : N ≤ 12 ∧ jm_I G0 188 0 = nI N ∧ rws G0 N l) (hH : jH H0 G0) : ∀ (d i : Nat) {G : jm_H}, i + d = 20 → 2 ≤ i → zro G0 2 i G → jz (jPH c H0) jz_I (fun Q => jm_w S 2 222 26 [.ref 180, .int (nI i)] [] G Q)
  | 0, i, G, hd, hi, hG => by
    obtain rfl : i = 20 := by omega
    refine jz_eq (fun _ => u222_26) (jz_if (fun _ => ?_) (fun c => absurd (by decide) c))
    refine jz_eq (fun _ => u222_45) (jz_end ⟨⟨l, jP0_now (Nat.le_refl _) h0 hG.1 (bnk_0 (hi := 0) h0.2.2.1 hG), N, hr.1, by rw [hG.2, if_neg (by omega)]; exact hr.2.1, fun j hj => by rw [(hG.1.2.2.2.2 193 (by decide)).1]; exact hr.2.2 j hj⟩, jf_fr_trans hH (jf_fr_mono hG.1 (fun r hr => by omega))⟩ ⟨_, rfl⟩)
  | d + 1, i, G, hd, hi, hG => by
    have st := jf_fr_st hG.1 h0.1
    have r17 := st_r180_17 st
    refine jz_eq (fun _ => u222_26) (jz_if (fun g => ?_) (fun _ => ?_))
    · have := (nI_leI (a := 20) (by decide) (by omega)).mp g
      omega
    refine jz_eq (fun _ => u222_32 (st_t180 st) (by rw [r17]; decide) (by rw [r17, st_l188 st]; exact nI_inK (by omega) (by decide)) (by rw [r17]; exact st_t188 st)) ?_
    rw [r17, nI_cl (by omega), nI_succK]
    exact l222 h0 hr hH d (i + 1) (by omega) (by omega) (zro_s hi hG)
theorem zro_0 {G0 : jm_H} : zro G0 2 2 G0 := ⟨jf_fr_refl G0, fun k => by rw [if_neg (by omega)]⟩
theorem z222 {G : jm_H} (h : jPH c H0 G) : jz (jPH c H0) jz_I (fun Q => jm_c S 222 [.ref 180] G Q) := by
  have st := jP_st h.1
  have r17 := st_r180_17 st
  have h20 : jz (jPH c H0) jz_I (fun Q => jm_w S 2 222 20 [.ref 180, .null] [] G Q) := by
    obtain ⟨l, h0, N, hN, eN, hr⟩ := h.1
    refine jz_eq (fun _ => u222_20 (st_t180 st)) (jz_call (y218 h0 ⟨hN, eN, hr⟩ h.2) (fun v G1 hm hv => ?_))
    obtain rfl := hv
    obtain ⟨h1, hr1, hH1, _⟩ := hm
    exact jz_eq (fun _ => u222_24) (l222 (S := S) h1 hr1 hH1 18 2 (by decide) (by decide) zro_0)
  refine jz_eq (fun _ => en222.trans (u222_0 (st_t180 st) (by rw [r17]; decide) (by rw [r17, st_l188 st]; decide) (by rw [r17]; decide) (by rw [r17]; exact st_t188 st))) (jz_if (fun _ => h20) (fun _ => ?_))
  refine jz_eq (fun _ => u222_9 (st_t180 st) (by rw [r17]; decide) (by rw [r17, st_l188 st]; decide) (by rw [r17]; decide) (by rw [r17]; exact st_t188 st)) (jz_if (fun _ => h20) (fun _ => ?_))
  exact jz_eq (fun _ => u222_18) (jz_end h ⟨_, rfl⟩)
end STAT
