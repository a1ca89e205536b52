set_option maxRecDepth 20000
/-! the reference works out its names: it comes to an end, every name is a row of the size -/
def jV (G0 G : jm_H) : Prop := jf_fr (fun r => r = 180 ∨ r = 193 ∨ r = 201 ∨ r = 205 ∨ r = 206) G0 G ∧ jm_st G ∧ ∀ k, k < 43 → jm_I G 180 k = jm_I G0 180 k
theorem jV_refl {G : jm_H} (st : jm_st G) : jV G G := ⟨jf_fr_refl G, st, fun _ _ => rfl⟩
theorem jV_fm {G0 G G' : jm_H} (h : jV G0 G) (f : jq_fm G G') : jV G0 G' := ⟨jf_fr_trans h.1 (jf_fr_mono f.1 (fun r hr => by rcases hr with g | g | g <;> omega)), jq_fm_st f h.2.1, fun k hk => (f.2 k hk).trans (h.2.2 k hk)⟩
theorem jV_pA {G0 G : jm_H} {r k : Nat} {v : Int32} (h : jV G0 G) (hr : r = 193 ∨ r = 201) : jV G0 (jm_pI G r k v) := by
  have f : jf_fr (fun r => r = 180 ∨ r = 193 ∨ r = 201 ∨ r = 205 ∨ r = 206) G (jm_pI G r k v) := jf_fr_pI (by omega)
  exact ⟨jf_fr_trans h.1 f, jf_fr_st f h.2.1, fun j hj => by rw [jm_I_pI, if_neg (by omega)]; exact h.2.2 j hj⟩
def stk (G : jm_H) (N high : Nat) : Prop := ∀ k, k < high → ∃ A, A < 2 ^ N ∧ jm_I G 201 k = nI A
def rws (G : jm_H) (N i : Nat) : Prop := ∀ j, j < i → ∃ A, A < 2 ^ N ∧ jm_I G 193 j = nI A
def prg (G : jm_H) (l : Nat) : Prop := ∀ j, j < l → ∃ a b h, jm_I G 191 j = nI a ∧ jm_I G 191 (j + 1) = nI b ∧ a ≤ b ∧ b ≤ 410 ∧ 1 ≤ h ∧ hg (jm_I G 189) (jm_I G 190) j a (b - a) = some h
theorem stk_fm {G G' : jm_H} {N high : Nat} (f : jq_fm G G') (h : stk G N high) : stk G' N high := fun k hk => by rw [(f.1.2.2.2.2 201 (by omega)).1]; exact h k hk
theorem rws_fm {G G' : jm_H} {N i : Nat} (f : jq_fm G G') (h : rws G N i) : rws G' N i := fun k hk => by rw [(f.1.2.2.2.2 193 (by omega)).1]; exact h k hk
theorem stk_put {G : jm_H} {N high m A : Nat} (h : stk G N high) (hA : A < 2 ^ N) (hm : m ≤ high) : ∀ k, k < max high (m + 1) → ∃ B, B < 2 ^ N ∧ jm_I (jm_pI G 201 m (nI A)) 201 k = nI B := by
  intro k hk
  by_cases g : k = m
  · exact ⟨A, hA, by rw [jm_I_pI, if_pos ⟨rfl, g⟩]⟩
  · obtain ⟨B, hB, e⟩ := h k (by omega)
    exact ⟨B, hB, by rw [jm_I_pI, if_neg (fun q => g q.2)]; exact e⟩
/-- a product of two rows is not too great -/
theorem zp_b {N W A B : Nat} (h1 : 3 ≤ N) (h2 : N ≤ 12) (hw : W ≤ 2) (hA : A < 2 ^ N) (hB : B < 2 ^ N) : (jq_zp N W A B).natAbs ≤ 2 ^ 230 := by
  unfold jq_zp
  by_cases h0 : A = 0 ∨ B = 0
  · rw [if_pos h0]; decide
  · rw [if_neg h0]
    obtain ⟨⟨a1, a2⟩, ⟨a3, a4⟩, _⟩ := jg_row (A := jf_bare N A) h1 h2 hw (jf_bare_lt hA)
    obtain ⟨⟨b1, b2⟩, ⟨b3, b4⟩, _⟩ := jg_row (A := jf_bare N B) h1 h2 hw (jf_bare_lt hB)
    have hz : jq_zn (jf_mant N W (jf_bare N A) * jf_mant N W (jf_bare N B)) (jf_pow N W (jf_bare N A) + jf_pow N W (jf_bare N B)) ≤ 2 ^ 230 := by
      unfold jq_zn
      have e1 : jf_mant N W (jf_bare N A) * jf_mant N W (jf_bare N B) ≤ 2 ^ 11 * 2 ^ 11 := Nat.mul_le_mul (by omega) (by omega)
      have e2 : 2 ^ (jf_pow N W (jf_bare N A) + jf_pow N W (jf_bare N B) + 112).toNat ≤ 2 ^ 200 := p2_le (by omega)
      exact Nat.le_trans (Nat.mul_le_mul e1 e2) (by decide)
    generalize jq_zn (jf_mant N W (jf_bare N A) * jf_mant N W (jf_bare N B)) (jf_pow N W (jf_bare N A) + jf_pow N W (jf_bare N B)) = z at hz
    split <;> split <;> omega
section WORKS
variable {S : Option (Nat × (Nat → Int32))} {G0 : jm_H} {N W : Nat}
theorem l202 {H : jm_H} (h1 : 3 ≤ N) (h2 : N ≤ 12) (hw : W ≤ 2) {f q high : Nat} (hf : f + q ≤ high) (hh : high ≤ 410) (hs : stk H N high) : ∀ (d k e : Nat) {G : jm_H} {z : Int}, k + 2 * d = f + q → e + d ≤ 300 → jm_st G → jq_fm H G → jq_sm G z → z.natAbs ≤ e * 2 ^ 230 → jz (jq_fm H) (jr_L N) (fun Q => jm_w S 6 202 7 [.ref 180, .int (nI N), .int (nI W), .int (nI f), .int (nI q), .int (nI k)] [] G Q)
  | 0, k, e, G, z, hk, he, st, fG, hz, hb => by
    refine jz_eq (fun _ => u202_7) ?_
    rw [nI_addN]
    refine jz_if (fun _ => ?_) (fun c => absurd ((nI_leI (by omega) (by omega)).mpr (by omega)) c)
    refine jz_eq (fun _ => u202_80 (st_t180 st)) (jz_call (t208 st h1 h2 hw hz) (fun v G1 f1 hv => ?_))
    obtain ⟨A, hA, rfl⟩ := hv
    exact jz_eq (fun _ => u202_86) (jz_end (jq_fm_trans fG f1) ⟨A, hA, rfl⟩)
  | d + 1, k, e, G, z, hk, he, st, fG, hz, hb => by
    have hp := p2_12 h2
    have r37 := st_r180_37 st
    have hsG := stk_fm fG hs
    obtain ⟨A, hA, eA⟩ := hsG k (by omega)
    obtain ⟨B, hB, eB⟩ := hsG (k + 1) (by omega)
    have i0 : ¬ (nI k < 0 ∨ 410 ≤ (nI k).toNatClampNeg) := nI_inK (by omega) (by decide)
    have i1 : ¬ (nI (k + 1) < 0 ∨ 410 ≤ (nI (k + 1)).toNatClampNeg) := nI_inK (by omega) (by decide)
    have c0 := nI_cl (k := k) (by omega)
    have c1 := nI_cl (k := k + 1) (by omega)
    have h46 : jz (jq_fm H) (jr_L N) (fun Q => jm_w S 6 202 46 [.ref 180, .int (nI N), .int (nI W), .int (nI f), .int (nI q), .int (nI k)] [] G Q) := by
      refine jz_eq (fun _ => u202_46.trans (c191 (by omega) (by omega))) ?_
      refine jz_eq (fun _ => u202_50) (jz_end fG ⟨2 ^ (N - 1), ?_, rfl⟩)
      have := p2_half (show 1 ≤ N by omega)
      have := Nat.two_pow_pos (N - 1)
      omega
    refine jz_eq (fun _ => u202_7) ?_
    rw [nI_addN]
    refine jz_if (fun c => absurd ((nI_leI (by omega) (by omega)).mp c) (by omega)) (fun _ => ?_)
    refine jz_eq (fun _ => u202_16 (st_t180 st) (by rw [r37]; decide) (by rw [r37, st_l201 st]; exact i0) (by rw [r37]; decide) (by rw [r37]; exact st_t201 st)) ?_
    rw [r37, c0, eA]
    refine jz_eq (fun _ => c204 (by omega) (by omega) (by omega)) ?_
    by_cases hnA : A = 2 ^ (N - 1)
    · rw [if_pos hnA]
      exact jz_eq (fun _ => u202_27) (jz_if (fun _ => h46) (fun c => absurd (show ¬ (1 : Int32) = 0 by decide) c))
    rw [if_neg hnA]
    refine jz_eq (fun _ => u202_27) (jz_if (fun c => absurd rfl c) (fun _ => ?_))
    refine jz_eq (fun _ => u202_30 (st_t180 st) (by rw [r37]; decide) (by rw [nI_succK, r37, st_l201 st]; exact i1) (by rw [r37]; decide) (by rw [r37]; exact st_t201 st)) ?_
    rw [nI_succK, r37, c1, eB]
    refine jz_eq (fun _ => c204 (by omega) (by omega) (by omega)) ?_
    by_cases hnB : B = 2 ^ (N - 1)
    · rw [if_pos hnB]
      exact jz_eq (fun _ => u202_43) (jz_if (fun c => absurd c (by decide)) (fun _ => h46))
    rw [if_neg hnB]
    refine jz_eq (fun _ => u202_43) (jz_if (fun _ => ?_) (fun c => absurd rfl c))
    have hzb : z.natAbs < 2 ^ 255 := by
      have : e * 2 ^ 230 ≤ 300 * 2 ^ 230 := Nat.mul_le_mul_right _ (by omega)
      have : 300 * 2 ^ 230 < 2 ^ 255 := by decide
      omega
    obtain ⟨G1, z1, f1, q1⟩ := c205 (S := S) (b := 1) st h1 h2 hw hA hnA hB hnB hz (Or.inr rfl) hzb
    refine jz_eq (fun _ => u202_51 (st_t180 st) (by rw [r37]; decide) (by rw [r37, st_l201 st]; exact i0) (by rw [r37]; decide) (by rw [r37]; exact st_t201 st) (by rw [nI_succK, r37, st_l201 st]; exact i1)) ?_
    rw [nI_succK, r37, c0, c1, eA, eB]
    refine jz_eq (fun _ => q1 _) ?_
    refine jz_eq (fun _ => u202_74) ?_
    rw [show nI k + (2 : Int32) = nI (k + 2) by rw [show (2 : Int32) = nI 2 from rfl, nI_addN]]
    refine l202 h1 h2 hw hf hh hs d (k + 2) (e + 1) (by omega) (by omega) (jq_fm_st f1 st) (jq_fm_trans fG f1) z1 ?_
    have := zp_b h1 h2 hw hA hB
    rw [Nat.add_mul, Nat.one_mul]
    omega
theorem z202 {H : jm_H} (st : jm_st H) (h1 : 3 ≤ N) (h2 : N ≤ 12) (hw : W ≤ 2) {f q high : Nat} (hf : f + q ≤ high) (hh : high ≤ 410) (hq : q % 2 = 0) (hs : stk H N high) : jz (jq_fm H) (jr_L N) (fun Q => jm_c S 202 [.ref 180, .int (nI N), .int (nI W), .int (nI f), .int (nI q)] H Q) := by
  obtain ⟨G, z0, f0, q0⟩ := c203 (S := S) st
  refine jz_eq (fun _ => en202.trans ((u202_0 (st_t180 st)).trans (q0 _))) ?_
  refine jz_eq (fun _ => u202_4) ?_
  exact l202 (S := S) h1 h2 hw hf hh hs (q / 2) f 0 (by omega) (by omega) (jq_fm_st f0 st) f0 z0 (by decide)
theorem hg_le {K V : Nat → Int32} {i a : Nat} : ∀ n h, hg K V i a n = some h → h ≤ n
  | 0, h, e => by cases e; exact Nat.le_refl 0
  | n + 1, h, e => by
    have e' : (hg K V i a n).bind (fun h => hg_d i h (K (a + n)) (V (a + n))) = some h := e
    cases hc : hg K V i a n with
    | none => rw [hc] at e'; cases e'
    | some g =>
      rw [hc] at e'
      have hle := hg_le n g hc
      have hd : hg_d i g (K (a + n)) (V (a + n)) = some h := e'
      unfold hg_d at hd
      by_cases k0 : K (a + n) = 0
      · rw [if_pos k0] at hd
        split at hd
        · cases hd; omega
        · cases hd
      rw [if_neg k0] at hd
      by_cases k1 : K (a + n) = 1
      · rw [if_pos k1] at hd
        split at hd
        · cases hd; omega
        · cases hd
      rw [if_neg k1] at hd
      by_cases k2 : K (a + n) = 2 ∨ K (a + n) = 7
      · rw [if_pos k2] at hd
        split at hd
        · cases hd; omega
        · cases hd
      rw [if_neg k2] at hd
      by_cases k3 : K (a + n) = 3 ∨ K (a + n) = 4 ∨ K (a + n) = 5 ∨ K (a + n) = 6
      · rw [if_pos k3] at hd
        split at hd
        · cases hd; omega
        · cases hd
      rw [if_neg k3] at hd
      by_cases k8 : K (a + n) = 8
      · rw [if_pos k8] at hd
        split at hd
        · cases hd; omega
        · cases hd
      rw [if_neg k8] at hd
      cases hd
theorem hg_pre {K V : Nat → Int32} {i a : Nat} : ∀ (n : Nat) {h : Nat}, hg K V i a n = some h → ∀ m, m < n → ∃ g g', hg K V i a m = some g ∧ hg_d i g (K (a + m)) (V (a + m)) = some g' ∧ hg K V i a (m + 1) = some g'
  | 0, h, _, m, hm => absurd hm (Nat.not_lt_zero _)
  | n + 1, h, e, m, hm => by
    have e' : (hg K V i a n).bind (fun h => hg_d i h (K (a + n)) (V (a + n))) = some h := e
    cases hc : hg K V i a n with
    | none => rw [hc] at e'; cases e'
    | some g =>
      rw [hc] at e'
      by_cases q : m = n
      · subst q
        exact ⟨g, h, hc, e', e⟩
      · exact hg_pre n hc m (by omega)
/-- within a name: gone so far -/
def jV1 (G0 : jm_H) (N i high : Nat) (G : jm_H) : Prop := jV G0 G ∧ stk G N high ∧ rws G N i
theorem jV1_fm {G G' : jm_H} {i high : Nat} (f : jq_fm G G') (h : jV1 G0 N i high G) : jV1 G0 N i high G' := ⟨jV_fm h.1 f, stk_fm f h.2.1, rws_fm f h.2.2⟩
theorem jV1_put {G : jm_H} {i high high' m A : Nat} (h : jV1 G0 N i high G) (hA : A < 2 ^ N) (hm : m ≤ high) (hh : high' ≤ max high (m + 1)) : jV1 G0 N i high' (jm_pI G 201 m (nI A)) := ⟨jV_pA h.1 (Or.inr rfl), fun k hk => stk_put h.2.1 hA hm k (by omega), fun j hj => by rw [jm_I_pI, if_neg (by omega)]; exact h.2.2 j hj⟩
theorem sw187 {x : Int32} (h3 : x = 3 ∨ x = 4 ∨ x = 5 ∨ x = 6) : ∃ w : Nat, w < 4 ∧ x - (3 : Int32) = nI w := by
  rcases h3 with rfl | rfl | rfl | rfl
  · exact ⟨0, by decide, by decide⟩
  · exact ⟨1, by decide, by decide⟩
  · exact ⟨2, by decide, by decide⟩
  · exact ⟨3, by decide, by decide⟩
theorem l187 {i a b hE : Nat} (h1 : 3 ≤ N) (h2 : N ≤ 12) (hw : W ≤ 2) (hi : i < 8) (hb : b ≤ 410) (hEnd : hg (jm_I G0 189) (jm_I G0 190) i a (b - a) = some hE) (hE1 : 1 ≤ hE) (eb : jm_I G0 191 (i + 1) = nI b) : ∀ (d s high : Nat), s + d = b → a ≤ s → ∀ {w6 : Value} {G : jm_H}, hg (jm_I G0 189) (jm_I G0 190) i a (s - a) = some high → jV1 G0 N i high G → jz (jV1 G0 N i 0) (jr_L N) (fun Q => jm_w S 7 187 11 [.ref 180, .int (nI i), .int (nI N), .int (nI W), .int (nI high), .int (nI s), w6] [] G Q)
  | 0, s, high, hd, ha, w6, G, hh, hG => by
    obtain rfl : s = b := by omega
    have st := hG.1.2.1
    have r22 := st_r180_22 st
    have r37 := st_r180_37 st
    have e191 : jm_I G 191 = jm_I G0 191 := (hG.1.1.2.2.2.2 191 (by decide)).1
    rw [hEnd] at hh
    obtain rfl := Option.some.inj hh
    obtain ⟨A, hA, eA⟩ := hG.2.1 0 (by omega)
    refine jz_eq (fun _ => u187_11 (st_t180 st) (by rw [r22]; decide) (by rw [nI_succK, r22, st_l191 st]; exact nI_inK (by omega) (by decide)) (by rw [r22]; decide) (by rw [r22]; exact st_t191 st)) ?_
    rw [nI_succK, r22, nI_cl (by omega), e191, eb]
    refine jz_if (fun _ => ?_) (fun c => absurd ((nI_leI (by omega) (by omega)).mpr (Nat.le_refl _)) c)
    refine jz_eq (fun _ => u187_264 (st_t180 st) (by rw [r37]; decide) (by rw [r37, st_l201 st]; decide) (by rw [r37]; decide) (by rw [r37]; exact st_t201 st)) ?_
    rw [r37, show Int32.toNatClampNeg 0 = 0 from by decide, eA]
    exact jz_end ⟨hG.1, fun k hk => absurd hk (Nat.not_lt_zero k), hG.2.2⟩ ⟨A, hA, rfl⟩
  | d + 1, s, high, hd, ha, w6, G, hh, hG => by
    have hp := p2_12 h2
    have st := hG.1.2.1
    have t0 := st_t180 st
    have r22 := st_r180_22 st
    have r37 := st_r180_37 st
    have r19 := st_r180_19 st
    have r20 := st_r180_20 st
    have e191 : jm_I G 191 = jm_I G0 191 := (hG.1.1.2.2.2.2 191 (by decide)).1
    have e189 : jm_I G 189 = jm_I G0 189 := (hG.1.1.2.2.2.2 189 (by decide)).1
    have e190 : jm_I G 190 = jm_I G0 190 := (hG.1.1.2.2.2.2 190 (by decide)).1
    have hle := hg_le _ _ hh
    obtain ⟨g, g', p1, p2, p3⟩ := hg_pre _ hEnd (s - a) (by omega)
    rw [hh] at p1
    obtain rfl := Option.some.inj p1
    rw [show a + (s - a) = s by omega] at p2
    have cs := nI_cl (k := s) (by omega)
    have is : ¬ (nI s < 0 ∨ 410 ≤ (nI s).toNatClampNeg) := nI_inK (by omega) (by decide)
    refine jz_eq (fun _ => u187_11 t0 (by rw [r22]; decide) (by rw [nI_succK, r22, st_l191 st]; exact nI_inK (by omega) (by decide)) (by rw [r22]; decide) (by rw [r22]; exact st_t191 st)) ?_
    rw [nI_succK, r22, nI_cl (by omega), e191, eb]
    refine jz_if (fun c => absurd ((nI_leI (by omega) (by omega)).mp c) (by omega)) (fun _ => ?_)
    refine jz_eq (fun _ => u187_24 t0 (by rw [r20]; decide) (by rw [r20, st_l190 st]; exact is) (by rw [r20]; decide) (by rw [r20]; exact st_t190 st) (by rw [r19]; decide) (by rw [r19, st_l189 st]; exact is) (by rw [r19]; decide) (by rw [r19]; exact st_t189 st)) ?_
    rw [r20, r19, cs, e190, e189]
    -- on
    have next : ∀ {w6 : Int32} {G : jm_H}, jV1 G0 N i g' G → jz (jV1 G0 N i 0) (jr_L N) (fun Q => jm_w S 7 187 258 [.ref 180, .int (nI i), .int (nI N), .int (nI W), .int (nI g'), .int (nI s), .int w6] [] G Q) := by
      intro w6 G hG
      refine jz_eq (fun _ => u187_258) ?_
      rw [nI_succK]
      exact l187 h1 h2 hw hi hb hEnd hE1 eb d (s + 1) g' (by omega) (by omega) (by rw [show s + 1 - a = s - a + 1 by omega]; exact p3) hG
    generalize hK : jm_I G0 189 s = K at p2
    generalize hV : jm_I G0 190 s = V at p2
    unfold hg_d at p2
    have ix : ∀ {G : jm_H} {m : Nat}, jm_st G → m < 410 → ¬ (nI m < 0 ∨ jm_ln G 201 ≤ (nI m).toNatClampNeg) := fun st hm => by rw [st_l201 st]; exact nI_inK hm (by decide)
    by_cases k0 : K = 0
    · rw [if_pos k0] at p2
      have hv : 0 ≤ V.toInt ∧ V.toInt ≤ 9999 := by
        by_cases q : 0 ≤ V.toInt ∧ V.toInt ≤ 9999
        · exact q
        · rw [if_neg q] at p2; cases p2
      rw [if_pos hv] at p2
      have eg := Option.some.inj p2
      rw [k0]
      refine jz_eq (fun _ => u187_40_0) ?_
      refine jz_eq (fun _ => u187_92 t0 (by rw [r37]; decide)) ?_
      rw [r37]
      refine jz_call (t188 st h1 h2 hw hv.1 hv.2) (fun v G1 f1 hv => ?_)
      obtain ⟨A, hA, rfl⟩ := hv
      have st1 := jq_fm_st f1 st
      refine jz_eq (fun _ => u187_106 (ix st1 (by omega)) (st_t201 st1)) ?_
      rw [nI_cl (by omega), nI_succK, eg]
      exact next (jV1_put (jV1_fm f1 hG) hA (Nat.le_refl _) (by omega))
    rw [if_neg k0] at p2
    by_cases k1 : K = 1
    · rw [if_pos k1] at p2
      have hv : 0 ≤ V.toInt ∧ V.toInt < i := by
        by_cases q : 0 ≤ V.toInt ∧ V.toInt < i
        · exact q
        · rw [if_neg q] at p2; cases p2
      rw [if_pos hv] at p2
      have eg := Option.some.inj p2
      obtain ⟨J, hJ, eJ⟩ := ji_nn (k := i) hv.1 hv.2
      obtain ⟨A, hA, eA⟩ := hG.2.2 J hJ
      have r24 := st_r180_24 st
      rw [k1, eJ]
      refine jz_eq (fun _ => u187_40_1) ?_
      refine jz_eq (fun _ => u187_113 t0 (by rw [r37]; decide) (by rw [r24]; decide) (by rw [r24, st_l193 st]; exact nI_inK (by omega) (by decide)) (by rw [r24]; decide) (by rw [r24]; exact st_t193 st) (by rw [r37]; exact ix st (by omega)) (by rw [r37]; exact st_t201 st)) ?_
      rw [r37, r24, nI_cl (k := high) (by omega), nI_cl (k := J) (by omega), eA, nI_succK, eg]
      exact next (jV1_put hG hA (Nat.le_refl _) (by omega))
    rw [if_neg k1] at p2
    by_cases k2 : K = 2 ∨ K = 7
    · rw [if_pos k2] at p2
      have hv : 1 ≤ high := by
        by_cases q : 1 ≤ high
        · exact q
        · rw [if_neg q] at p2; cases p2
      rw [if_pos hv] at p2
      have eg := Option.some.inj p2
      obtain ⟨m, rfl⟩ : ∃ m, high = m + 1 := ⟨high - 1, by omega⟩
      obtain ⟨A, hA, eA⟩ := hG.2.1 m (by omega)
      have cm := nI_cl (k := m) (by omega)
      rcases k2 with k2 | k2
      · rw [k2]
        refine jz_eq (fun _ => u187_40_2) ?_
        refine jz_eq (fun _ => u187_133 t0 (by rw [r37]; decide) (by rw [nI_prd, r37]; exact ix st (by omega)) (by rw [r37]; decide) (by rw [r37]; exact st_t201 st)) ?_
        rw [nI_prd, r37, cm, eA]
        refine jz_eq (fun _ => c194' (by omega) (by omega)) ?_
        refine jz_eq (fun _ => u187_154 (ix st (by omega)) (st_t201 st)) ?_
        rw [cm, eg]
        exact next (jV1_put hG (jf_neg_lt N A) (by omega) (by omega))
      · obtain ⟨G1, f1, q1⟩ := c201 (S := S) st h1 h2 hw hA
        have st1 := jq_fm_st f1 st
        rw [k2]
        refine jz_eq (fun _ => u187_40_7) ?_
        refine jz_eq (fun _ => u187_158 t0 (by rw [r37]; decide) (by rw [nI_prd, r37]; exact ix st (by omega)) (by rw [r37]; decide) (by rw [r37]; exact st_t201 st)) ?_
        rw [nI_prd, r37, cm, eA]
        refine jz_eq (fun _ => q1 _) ?_
        refine jz_eq (fun _ => u187_181 (ix st1 (by omega)) (st_t201 st1)) ?_
        rw [cm, eg]
        exact next (jV1_put (jV1_fm f1 hG) (jq_rnd_lt h1) (by omega) (by omega))
    rw [if_neg k2] at p2
    by_cases k3 : K = 3 ∨ K = 4 ∨ K = 5 ∨ K = 6
    · rw [if_pos k3] at p2
      have hv : 2 ≤ high := by
        by_cases q : 2 ≤ high
        · exact q
        · rw [if_neg q] at p2; cases p2
      rw [if_pos hv] at p2
      have eg := Option.some.inj p2
      obtain ⟨m, rfl⟩ : ∃ m, high = m + 2 := ⟨high - 2, by omega⟩
      obtain ⟨A, hA, eA⟩ := hG.2.1 m (by omega)
      obtain ⟨B, hB, eB⟩ := hG.2.1 (m + 1) (by omega)
      have cm := nI_cl (k := m) (by omega)
      have cm1 := nI_cl (k := m + 1) (by omega)
      have em1 : nI (m + 2) + (-1 : Int32) = nI (m + 1) := by rw [jI_n, show (-1 : Int32) = jI (-1) from by decide, jI_add, jI_n, show ((m + 2 : Nat) : Int) + -1 = ((m + 1 : Nat) : Int) by omega]
      obtain ⟨w, hw4, ew⟩ := sw187 k3
      obtain ⟨G1, f1, _, q1⟩ := c209 (S := S) st h1 h2 hw hA hB w hw4
      have st1 := jq_fm_st f1 st
      have h215 : jz (jV1 G0 N i 0) (jr_L N) (fun Q => jm_w S 7 187 215 [.ref 180, .int (nI i), .int (nI N), .int (nI W), .int (nI (m + 2)), .int (nI s), .int V] [] G Q) := by
        refine jz_eq (fun _ => u187_215 t0 (by rw [r37]; decide) (by rw [em1, nI_prd, r37]; exact ix st (by omega)) (by rw [r37]; decide) (by rw [r37]; exact st_t201 st) (by rw [em1, r37]; exact ix st (by omega)) (by rw [r19]; decide) (by rw [r19, st_l189 st]; exact is) (by rw [r19]; decide) (by rw [r19]; exact st_t189 st)) ?_
        rw [em1, nI_prd, r37, r19, cm, cm1, cs, eA, eB, e189, hK, ew]
        refine jz_eq (fun _ => q1 _) ?_
        refine jz_eq (fun _ => u187_257 (ix st1 (by omega)) (st_t201 st1)) ?_
        rw [cm, show m + 1 = g' by omega]
        exact next (jV1_put (jV1_fm f1 hG) (jq_rnd_lt h1) (by omega) (by omega))
      rcases k3 with k3 | k3 | k3 | k3
      · rw [k3]; exact jz_eq (fun _ => u187_40_3) h215
      · rw [k3]; exact jz_eq (fun _ => u187_40_4) h215
      · rw [k3]; exact jz_eq (fun _ => u187_40_5) h215
      · rw [k3]; exact jz_eq (fun _ => u187_40_6) h215
    rw [if_neg k3] at p2
    by_cases k8 : K = 8
    · rw [if_pos k8] at p2
      have hv : 0 ≤ V.toInt ∧ V.toInt ≤ high ∧ V.toInt.toNat % 2 = 0 := by
        by_cases q : 0 ≤ V.toInt ∧ V.toInt ≤ high ∧ V.toInt.toNat % 2 = 0
        · exact q
        · rw [if_neg q] at p2; cases p2
      rw [if_pos hv] at p2
      have eg := Option.some.inj p2
      obtain ⟨q, hq, eq⟩ := ji_nn (k := high + 1) hv.1 (by omega)
      rw [eq, nI_toInt (by omega), Int.toNat_natCast] at hv eg
      obtain ⟨f, rfl⟩ : ∃ f, high = f + q := ⟨high - q, by omega⟩
      have ef : nI (f + q) - nI q = nI f := by rw [pk_sub (by omega), show f + q - q = f by omega]
      rw [k8, eq]
      refine jz_eq (fun _ => u187_40_8) ?_
      refine jz_eq (fun _ => u187_185 t0 (by rw [r37]; decide)) ?_
      rw [r37, ef]
      refine jz_call (z202 st h1 h2 hw (Nat.le_refl _) (by omega) hv.2.2 hG.2.1) (fun v G1 f1 hv => ?_)
      obtain ⟨A, hA, rfl⟩ := hv
      have st1 := jq_fm_st f1 st
      refine jz_eq (fun _ => u187_208 (ix st1 (by omega)) (st_t201 st1)) ?_
      rw [nI_cl (by omega), nI_succK, show f + 1 = g' by omega]
      exact next (jV1_put (jV1_fm f1 hG) hA (by omega) (by omega))
    · rw [if_neg k8] at p2
      cases p2
/-- all names -/
theorem l186 {l : Nat} (h1 : 3 ≤ N) (h2 : N ≤ 12) (hw : W ≤ 2) (hl : l ≤ 8) (eN : jm_I G0 188 0 = nI N) (eW : jm_I G0 188 1 = nI W) (el : jm_I G0 180 25 = nI l) (hpr : prg G0 l) : ∀ (d i : Nat), i + d = l → ∀ {G : jm_H}, jV1 G0 N i 0 G → jz (jV1 G0 N l 0) jz_0 (fun Q => jm_w S 8 186 2 [.ref 180, .int (nI i)] [] G Q)
  | 0, i, hd, G, hG => by
    obtain rfl : i = l := by omega
    have st := hG.1.2.1
    refine jz_eq (fun _ => u186_2 (st_t180 st)) ?_
    rw [hG.1.2.2 25 (by decide), el]
    refine jz_if (fun _ => jz_eq (fun _ => u186_39) (jz_end hG rfl)) (fun c => absurd ((nI_leI (by omega) (by omega)).mpr (Nat.le_refl _)) c)
  | d + 1, i, hd, G, hG => by
    have st := hG.1.2.1
    have t0 := st_t180 st
    have r24 := st_r180_24 st
    have r17 := st_r180_17 st
    have e188 : jm_I G 188 = jm_I G0 188 := (hG.1.1.2.2.2.2 188 (by decide)).1
    have e191 : jm_I G 191 = jm_I G0 191 := (hG.1.1.2.2.2.2 191 (by decide)).1
    obtain ⟨a, b, h, f1, f2, f3, f4, f5, f6⟩ := hpr i (by omega)
    refine jz_eq (fun _ => u186_2 t0) ?_
    rw [hG.1.2.2 25 (by decide), el]
    refine jz_if (fun c => absurd ((nI_leI (by omega) (by omega)).mp c) (by omega)) (fun _ => ?_)
    refine jz_eq (fun _ => u186_10 t0 (by rw [r24]; decide) (by rw [r17]; decide) (by rw [r17, st_l188 st]; decide) (by rw [r17]; decide) (by rw [r17]; exact st_t188 st) (by rw [r17, st_l188 st]; decide)) ?_
    rw [r24, r17, e188, show Int32.toNatClampNeg 0 = 0 from by decide, show Int32.toNatClampNeg 1 = 1 from by decide, eN, eW]
    have r22 := st_r180_22 st
    refine jz_call (K' := jV1 G0 N i 0) (R' := jr_L N) ?_ (fun v G1 hG1 hv => ?_)
    · refine jz_eq (fun _ => en187.trans (u187_0 t0 (by rw [r22]; decide) (by rw [r22, st_l191 st]; exact nI_inK (by omega) (by decide)) (by rw [r22]; decide) (by rw [r22]; exact st_t191 st))) ?_
      rw [r22, nI_cl (by omega), e191, f1]
      exact l187 (S := S) h1 h2 hw (by omega) f4 f6 f5 f2 (b - a) a 0 (by omega) (Nat.le_refl _) (by rw [Nat.sub_self]; rfl) hG
    · obtain ⟨A, hA, rfl⟩ := hv
      have st1 := hG1.1.2.1
      refine jz_eq (fun _ => u186_32 (by rw [st_l193 st1]; exact nI_inK (by omega) (by decide)) (st_t193 st1)) ?_
      rw [nI_cl (by omega), nI_succK]
      refine l186 h1 h2 hw hl eN eW el hpr d (i + 1) (by omega) ⟨jV_pA hG1.1 (Or.inl rfl), fun k hk => absurd hk (Nat.not_lt_zero k), fun j hj => ?_⟩
      rw [jm_I_pI]
      by_cases g : j = i
      · exact ⟨A, hA, by rw [if_pos ⟨rfl, g⟩]⟩
      · rw [if_neg (fun q => g q.2)]
        exact hG1.2.2 j (by omega)
theorem z186 {l : Nat} {G : jm_H} (st : jm_st G) (h1 : 3 ≤ N) (h2 : N ≤ 12) (hw : W ≤ 2) (hl : l ≤ 8) (eN : jm_I G 188 0 = nI N) (eW : jm_I G 188 1 = nI W) (el : jm_I G 180 25 = nI l) (hpr : prg G l) : jz (jV1 G N l 0) jz_0 (fun Q => jm_c S 186 [.ref 180] G Q) :=
  jz_eq (fun _ => en186.trans u186_0) (l186 (S := S) h1 h2 hw hl eN eW el hpr l 0 (by omega) ⟨jV_refl st, fun k hk => absurd hk (Nat.not_lt_zero k), fun j hj => absurd hj (Nat.not_lt_zero j)⟩)
end WORKS
