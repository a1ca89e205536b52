set_option maxRecDepth 20000
/-! the class's sums: in states, in slots, in the past, in the worker; they come to an end -/
def jU (u : Nat) : Prop := u = 18 ∨ js_U u
theorem su_at {u : Nat} {G : jm_H} (hu : jU u) (st : jm_st G) : jm_tg G u = 8 ∧ jm_tg G (u + 1) = 101 ∧ jm_ln G (u + 1) = 7 ∧ jm_R G u 0 = u + 1 := by
  rcases hu with rfl | hu
  · exact ⟨(st.1 (18, 8, 0) (by decide +kernel)).1, (st.1 (19, 101, 7) (by decide +kernel)).1, (st.1 (19, 101, 7) (by decide +kernel)).2, st.2.1 (18, 0, 19) (by decide +kernel)⟩
  · obtain ⟨p, rfl⟩ : ∃ p, u = p + 1 := ⟨u - 1, by unfold js_U at hu; omega⟩
    have hp : js_S p := by unfold js_U at hu; unfold js_S; omega
    obtain ⟨⟨_, a, b, c⟩, _, d⟩ := js_S_at hp st
    exact ⟨a, b, c, d⟩
theorem jU_lt {u : Nat} (hu : jU u) : 17 < u ∧ u + 1 < 180 ∧ jv_no (u + 1) ∧ ¬ js_S u := by
  unfold jU js_U at hu
  unfold jv_no js_S js_U
  omega
/-- a sum changed: itself, its words -/
def jS (u : Nat) (H0 G : jm_H) : Prop := jf_fr (fun q => q = u ∨ q = u + 1) H0 G ∧ (js_U u → jm_I G u 1 = 0 ∨ jm_I G u 1 = 1) ∧ (js_U u → jm_I G u 2 = 0 ∨ jm_I G u 2 = 1) ∧ jm_st G
theorem jS_pI {u k : Nat} {v : Int32} {H0 G : jm_H} (h : jS u H0 G) (hv : v = 0 ∨ v = 1) : jS u H0 (jm_pI G u k v) := by
  have f : jf_fr (fun q => q = u ∨ q = u + 1) G (jm_pI G u k v) := jf_fr_pI (Or.inl rfl)
  refine ⟨jf_fr_trans h.1 f, fun hu => ?_, fun hu => ?_, jf_fr_st f h.2.2.2⟩
  · rw [jm_I_pI]; split
    · exact hv
    · exact h.2.1 hu
  · rw [jm_I_pI]; split
    · exact hv
    · exact h.2.2.1 hu
theorem jS_pL {u k : Nat} {v : Int64} {H0 G : jm_H} (h : jS u H0 G) : jS u H0 (jm_pL G (u + 1) k v) := by
  have f : jf_fr (fun q => q = u ∨ q = u + 1) G (jm_pL G (u + 1) k v) := jf_fr_pL (Or.inr rfl)
  exact ⟨jf_fr_trans h.1 f, h.2.1, h.2.2.1, jf_fr_st f h.2.2.2⟩
theorem jS_refl {u : Nat} {H0 G : jm_H} (h : jK H0 G) : jS u G G := ⟨jf_fr_refl G, fun hu => (h.1.2.2 u 1).2.1 hu (Or.inl rfl), fun hu => (h.1.2.2 u 2).2.1 hu (Or.inr rfl), h.1.1⟩
/-- what a change of a sum leaves: the bounds -/
theorem jK_S {u : Nat} {H0 G G' : jm_H} (hu : js_U u) (h : jK H0 G) (f : jS u G G') : jK H0 G' := by
  have hl := jU_lt (Or.inr hu)
  refine ⟨⟨f.2.2.2, ?_, fun r k => ?_⟩, jk_w_trans h.2 (jk_w_fr f.1 (fun r g => by omega))⟩
  · unfold jk_T
    rw [f.1.2.2.2.1]
    exact h.1.2.1
  · by_cases g : r = u
    · subst g
      have e : ∀ (v : Int32), (k = 1 ∨ k = 2 → v = 0 ∨ v = 1) → jv r k v := fun v hv => by
        refine ⟨fun q => absurd q hl.2.2.2, fun _ => hv, fun q => ?_, fun q => ?_, fun q => ?_, fun q => ?_, fun q => ?_⟩ <;> exfalso <;> revert hu q <;> unfold js_U <;> omega
      exact e _ (fun hk => by rcases hk with rfl | rfl; exact f.2.1 hu; exact f.2.2.1 hu)
    · by_cases g2 : r = u + 1
      · rw [g2]; exact jv_free hl.2.2.1
      · rw [(f.1.2.2.2.2 r (fun q => q.elim g g2)).1]
        exact h.1.2.2 r k
/-- a whole number from 0 on; one up to so much -/
def jz_N (v : Option Value) : Prop := ∃ i : Nat, i < 2147483648 ∧ v = some (.int (nI i))
def jz_B (b : Nat) (v : Option Value) : Prop := ∃ k : Nat, k ≤ b ∧ v = some (.int (nI k))
section SUMS
variable {S : Option (Nat × (Nat → Int32))} {H0 : jm_H} {u : Nat}
theorem p110 {y0 y2 : Int64} {G : jm_H} (hG : jE H0 G) : jz (jE H0) jz_L (fun Q => jm_c S 110 [.long y0, .long y2] G Q) := by
  have b11 : ∀ {y0 : Int64} {y2 : Int64} {q0 : Int64} {G : jm_H}, jE H0 G → jz (jE H0) jz_L (fun Q => jm_w S 1 110 11 [.long y0, .null, .long y2, .null] [.long q0] G Q) := by
    intro y0 y2 q0 G hG
    have st := True.intro
    refine jz_eq (fun _ => u110_11) ?_
    exact jz_end (hG) ⟨_, rfl⟩
  have b0 : ∀ {y0 : Int64} {y2 : Int64} {G : jm_H}, jE H0 G → jz (jE H0) jz_L (fun Q => jm_w S 1 110 0 [.long y0, .null, .long y2, .null] [] G Q) := by
    intro y0 y2 G hG
    have st := True.intro
    refine jz_eq (fun _ => u110_0) ?_
    refine jz_if (fun c0 => ?_) (fun c0 => ?_)
    · have st := True.intro
      refine jz_eq (fun _ => u110_10) ?_
      exact b11 (hG)
    · have st := True.intro
      refine jz_eq (fun _ => u110_6) ?_
      exact b11 (hG)
  refine jz_eq (fun _ => en110) ?_
  exact b0 (hG)
theorem p74n {x : Int32} {G : jm_H} : jz (jE G) jz_N (fun Q => jm_c S 74 [.int (0 : Int32), .int x] G Q) := by
  have h5 : j3 x.toInt := j3_t x
  have e : ∀ Q, jm_c S 74 [.int (0 : Int32), .int x] G Q = Q (some (.int (jI (max 0 x.toInt)))) G := fun Q => by
    have h := c74 (S := S) (H := G) (Q := Q) (a := 0) (b := x.toInt) ⟨by decide, by decide⟩ h5
    rw [← jI_of x] at h
    exact h
  refine jz_eq e (jz_end rfl ⟨(max 0 x.toInt).toNat, by have := h5.2; omega, ?_⟩)
  rw [jI_n, Int.toNat_of_nonneg (by omega)]
theorem i32_nI (x : Int32) : ∃ m : Nat, m < 4294967296 ∧ x = nI m := by
  refine ⟨x.toBitVec.toNat, x.toBitVec.isLt, ?_⟩
  rw [jI_n]
  apply Int32.toBitVec.inj
  apply BitVec.eq_of_toNat_eq
  have a := jI_bv ((x.toBitVec.toNat : Nat) : Int)
  have b := x.toBitVec.isLt
  omega
theorem p55 {x : Int32} {G : jm_H} : jz (jE G) (jz_B 32) (fun Q => jm_c S 55 [.int x] G Q) := by
  obtain ⟨m, hm, rfl⟩ := i32_nI x
  by_cases h0 : m = 0
  · subst h0
    refine jz_eq (fun _ => en55.trans u55_0) (jz_if (fun c => absurd c (by decide)) (fun _ => ?_))
    refine jz_eq (fun _ => u55_4) (jz_if (fun c => absurd rfl c) (fun _ => ?_))
    exact jz_eq (fun _ => u55_8.trans u55_14) (jz_end rfl ⟨32, by decide, rfl⟩)
  · exact jz_eq (fun _ => c55 (by omega) hm) (jz_end rfl ⟨_, by omega, rfl⟩)
theorem p54 {x : Int64} {G : jm_H} : jz (jE G) (jz_B 64) (fun Q => jm_c S 54 [.long x] G Q) := by
  refine jz_eq (fun _ => en54.trans u54_0) (jz_if (fun _ => ?_) (fun _ => ?_))
  · refine jz_eq (fun _ => u54_21) (jz_call p55 (fun v G1 e hv => ?_))
    obtain rfl := e
    obtain ⟨k, hk, rfl⟩ := hv
    exact jz_eq (fun _ => u54_25) (jz_end rfl ⟨k, by omega, rfl⟩)
  · refine jz_eq (fun _ => u54_10) (jz_call p55 (fun v G1 e hv => ?_))
    obtain rfl := e
    obtain ⟨k, hk, rfl⟩ := hv
    refine jz_eq (fun _ => u54_17.trans u54_25) (jz_end rfl ⟨32 + k, by omega, ?_⟩)
    rw [show (32 : Int32) = nI 32 from rfl, nI_addN]
theorem p53 {x : Int64} {G : jm_H} : jz (jE G) (jz_B 64) (fun Q => jm_c S 53 [.long x] G Q) := by
  refine jz_eq (fun _ => en53.trans u53_0) (jz_call p54 (fun v G1 e hv => ?_))
  obtain rfl := e
  obtain ⟨k, hk, rfl⟩ := hv
  refine jz_eq (fun _ => u53_6) (jz_end rfl ⟨64 - k, by omega, ?_⟩)
  rw [show (64 : Int32) = nI 64 from rfl, jI_n, jI_n, jI_sub, jI_n, Int.ofNat_sub hk]
/-- the highest bit's place, -1 without -/
def jz_h (v : Option Value) : Prop := ∃ z : Int, -1 ≤ z ∧ z ≤ 255 ∧ v = some (.int (jI z))
theorem l84 (hu : jU u) {G : jm_H} (st : jm_st G) : ∀ i : Nat, i ≤ 7 → jz (jE G) jz_h (fun Q => jm_w S 4 84 8 [.ref u, .int (jI ((i : Int) - 1))] [] G Q)
  | 0, _ => jz_eq (fun _ => u84_8) (jz_if (fun _ => jz_eq (fun _ => u84_46) (jz_end rfl ⟨-1, by decide, by decide, rfl⟩)) (fun c => absurd (by decide) c))
  | i + 1, hi => by
    obtain ⟨s1, s2, s3, s4⟩ := su_at hu st
    have sl := jU_lt hu
    rw [show (((i + 1 : Nat) : Int) - 1) = (i : Int) by omega, ← jI_n]
    have hix : ¬ (nI i < 0 ∨ 7 ≤ (nI i).toNatClampNeg) := nI_inK (by omega) (by decide)
    refine jz_eq (fun _ => u84_8) (jz_if (fun c => ?_) (fun _ => ?_))
    · have := (nI_ltI (b := 0) (by omega) (by decide)).mp c
      omega
    · refine jz_eq (fun _ => u84_12 s1 (by rw [s4]; omega) (by rw [s4, s3]; exact hix) (by rw [s4]; exact s2)) ?_
      refine jz_if (fun _ => ?_) (fun _ => ?_)
      · refine jz_eq (fun _ => u84_40) ?_
        have h := l84 hu st i (by omega)
        rw [show nI i + (-1 : Int32) = jI ((i : Int) - 1) by rw [jI_n, show (-1 : Int32) = jI (-1) from by decide, jI_add]; rfl]
        exact h
      · refine jz_eq (fun _ => u84_23 s1 (by rw [s4]; omega) (by rw [s4, s3]; exact hix) (by rw [s4]; exact s2)) ?_
        refine jz_call p53 (fun v G1 e hv => ?_)
        obtain rfl := e
        obtain ⟨k, hk, rfl⟩ := hv
        refine jz_eq (fun _ => u84_36) (jz_end rfl ⟨(i : Int) * 32 + k - 1, by omega, by omega, ?_⟩)
        rw [jI_n, show (32 : Int32) = jI 32 from by decide, jI_mul, jI_n, jI_add, show (1 : Int32) = jI 1 from by decide, jI_sub]
theorem p84 (hu : jU u) {G : jm_H} (st : jm_st G) : jz (jE G) jz_h (fun Q => jm_c S 84 [.ref u] G Q) := by
  obtain ⟨s1, s2, s3, s4⟩ := su_at hu st
  have sl := jU_lt hu
  refine jz_eq (fun _ => en84.trans (u84_0 s1 (by rw [s4]; omega) (by rw [s4]; omega) (by rw [s4, s2]; decide))) ?_
  rw [s4, s3]
  exact l84 (S := S) hu st 7 (by decide)
theorem b1_or (x : Int64) : Int64.toInt32 (x &&& 1) = 0 ∨ Int64.toInt32 (x &&& 1) = 1 := by
  have h : ∀ b : BitVec 64, (b &&& 1#64) = 0#64 ∨ (b &&& 1#64) = 1#64 := by
    intro b
    have : (b &&& 1#64).toNat = b.toNat % 2 := by rw [BitVec.toNat_and]; exact Nat.and_one_is_mod _
    rcases Nat.mod_two_eq_zero_or_one b.toNat with g | g
    · exact Or.inl (BitVec.eq_of_toNat_eq (by rw [this, g]; rfl))
    · exact Or.inr (BitVec.eq_of_toNat_eq (by rw [this, g]; rfl))
  rcases h x.toBitVec with g | g
  · refine Or.inl ?_
    rw [show x &&& 1 = 0 from Int64.toBitVec.inj g]; rfl
  · refine Or.inr ?_
    rw [show x &&& 1 = 1 from Int64.toBitVec.inj g]; rfl
def jz_01 (v : Option Value) : Prop := v = some (.int (nI 0)) ∨ v = some (.int (nI 1))
theorem p85 (hu : jU u) {G : jm_H} (st : jm_st G) {x : Int32} : jz (jE G) jz_01 (fun Q => jm_c S 85 [.ref u, .int x] G Q) := by
  obtain ⟨s1, s2, s3, s4⟩ := su_at hu st
  have sl := jU_lt hu
  refine jz_eq (fun _ => en85.trans u85_0) (jz_if (fun _ => jz_eq (fun _ => u85_16) (jz_end rfl (Or.inl rfl))) (fun c1 => ?_))
  refine jz_eq (fun _ => u85_4 s1 (by rw [s4]; omega) (by rw [s4]; omega) (by rw [s4, s2]; decide)) ?_
  rw [s4, s3]
  refine jz_if (fun c2 => ?_) (fun _ => jz_eq (fun _ => u85_16) (jz_end rfl (Or.inl rfl)))
  have h2 : x.toInt < 224 := ti_lt (n := 224) (by decide) (show x < Int32.ofNat 224 from c2)
  obtain ⟨m, hm, rfl⟩ := ji_nn (k := 224) (ti_lt0 c1) h2
  have e : nI m >>> ((5 : Int32) &&& 31) = nI (m / 32) := by
    rw [jI_n, show (5 : Int32) = jI ((5 : Nat) : Int) from by decide, jI_shr ⟨by omega, by omega⟩ (by decide), jI_n]
    rfl
  refine jz_eq (fun _ => u85_18 s1 (by rw [s4]; omega) (by rw [s4, s3, e]; exact nI_inK (by omega) (by decide)) (by rw [s4]; exact s2)) ?_
  refine jz_end rfl ?_
  rcases b1_or ((jm_L G (jm_R G u 0) (Int32.toNatClampNeg (nI m >>> ((5 : Int32) &&& 31)))) >>> (Int32.toInt64 (nI m &&& (31 : Int32)) &&& 63)) with g | g
  · exact Or.inl (by rw [g]; rfl)
  · exact Or.inr (by rw [g]; rfl)
theorem l86 (hu : jU u) {G : jm_H} (st : jm_st G) {x1 : Int32} : ∀ d i : Nat, i + d = 224 → jz (jE G) jz_01 (fun Q => jm_w S 2 86 2 [.ref u, .int x1, .int (nI i)] [] G Q)
  | 0, i, hd => by
    obtain ⟨s1, s2, s3, s4⟩ := su_at hu st
    have sl := jU_lt hu
    refine jz_eq (fun _ => u86_2) (jz_if (fun _ => jz_eq (fun _ => u86_36) (jz_end rfl (Or.inl rfl))) (fun _ => ?_))
    refine jz_eq (fun _ => u86_7 s1 (by rw [s4]; omega) (by rw [s4]; omega) (by rw [s4, s2]; decide)) ?_
    rw [s4, s3]
    exact jz_if (fun _ => jz_eq (fun _ => u86_36) (jz_end rfl (Or.inl rfl))) (fun c => absurd (show Int32.ofNat 224 ≤ nI i from (nI_leI (a := 224) (by decide) (by omega)).mpr (by omega)) c)
  | d + 1, i, hd => by
    obtain ⟨s1, s2, s3, s4⟩ := su_at hu st
    have sl := jU_lt hu
    refine jz_eq (fun _ => u86_2) (jz_if (fun _ => jz_eq (fun _ => u86_36) (jz_end rfl (Or.inl rfl))) (fun _ => ?_))
    refine jz_eq (fun _ => u86_7 s1 (by rw [s4]; omega) (by rw [s4]; omega) (by rw [s4, s2]; decide)) ?_
    refine jz_if (fun _ => jz_eq (fun _ => u86_36) (jz_end rfl (Or.inl rfl))) (fun _ => ?_)
    refine jz_eq (fun _ => u86_19 s1) (jz_call (p85 hu st) (fun v G1 e hv => ?_))
    obtain rfl := e
    rcases hv with rfl | rfl
    · refine jz_eq (fun _ => u86_24) (jz_if (fun _ => ?_) (fun c => absurd (show ¬ nI 0 = (1 : Int32) by decide) c))
      refine jz_eq (fun _ => u86_30) ?_
      rw [nI_succK]
      exact l86 hu st d (i + 1) (by omega)
    · refine jz_eq (fun _ => u86_24) (jz_if (fun c => absurd rfl c) (fun _ => ?_))
      exact jz_eq (fun _ => u86_28) (jz_end rfl (Or.inr rfl))
theorem p86 (hu : jU u) {G : jm_H} (st : jm_st G) {x1 : Int32} : jz (jE G) jz_01 (fun Q => jm_c S 86 [.ref u, .int x1] G Q) := jz_eq (fun _ => en86.trans u86_0) (l86 (S := S) hu st 224 0 (by decide))
/-- a number told: in bounds -/
def jT (r : Nat) (H0 G : jm_H) : Prop := jf_fr (fun q => q = r) H0 G ∧ jm_st G ∧ ∃ x, jq_is G r x ∧ jq_ok x
theorem e88 {r m : Nat} {p s : Int} {G : jm_H} {w0 w1 w2 w3 w4 w5 w6 : Value} (tr : jm_tg G r = 3) (st : jm_st G) (hm : m < 2 ^ 45) (hs : s = 1 ∨ s = -1) (hp : -96 ≤ p ∧ p ≤ 115) : ∃ H1, jT r G H1 ∧ ∀ Q, jm_c S 48 [.ref r, .int (jI s), .long (lN m), .int (jI p)] G Q = Q none H1 := by
  obtain ⟨H1, i1, f1, q1⟩ := c48g (S := S) (H := G) (s := s) (m := m) (p := p) tr (Nat.lt_trans hm (by decide))
  refine ⟨H1, ⟨f1, jf_fr_st f1 st, _, i1, ?_⟩, q1⟩
  by_cases h : m = 0
  · rw [if_pos h]
    exact ⟨Or.inr (Or.inl rfl), ⟨fun _ => h, fun _ => rfl⟩, Nat.lt_trans hm (by decide), by dsimp only; omega, by dsimp only; omega, fun g => absurd rfl g⟩
  · rw [if_neg h]
    have hl : Nat.log2 m < 45 := (Nat.log2_lt h).mpr hm
    exact ⟨by dsimp only; omega, ⟨fun g => by dsimp only at g; omega, fun g => absurd g h⟩, Nat.lt_trans hm (by decide), by dsimp only; omega, by dsimp only; omega, fun _ => by dsimp only; omega⟩
theorem or_lt {m b k : Nat} (h : m < 2 ^ k) (hb : b ≤ 1) (hk : 1 ≤ k) : m ||| b < 2 ^ k := Nat.or_lt_two_pow h (Nat.lt_of_le_of_lt hb (Nat.lt_of_lt_of_le (by decide : 1 < 2 ^ 1) (Nat.pow_le_pow_right (by decide) hk)))
theorem e73 {r m : Nat} {low high : Int} {G : jm_H} {w5 : Value} {x6 : Int32} (hu : jU u) (st : jm_st G) (tr : jm_tg G r = 3) (hm : m < 2 ^ 45) (hl : 0 ≤ low ∧ low ≤ 211) : jz (jT r G) jz_0 (fun Q => jm_w S 5 83 60 [.ref u, .ref r, .int (jI high), .int (jI low), .long (lN m), .null, .int x6] [] G Q) := by
  obtain ⟨s1, s2, s3, s4⟩ := su_at hu st
  have h88 : ∀ (s : Int) (b : Nat), (s = 1 ∨ s = -1) → b ≤ 1 → jz (jT r G) jz_0 (fun Q => jm_w S 5 83 88 [.ref u, .ref r, .int (jI high), .int (jI low), .long (lN m), .null, .int x6] [.int (nI b), .long (lN m), .int (jI s), .ref r] G Q) := by
    intro s b hs hb
    refine jz_eq (fun _ => u83_88 tr) ?_
    rw [nI_l (by omega), lN_or, show (-96 : Int32) = jI (-96) from by decide, jI_add]
    obtain ⟨H1, t1, q1⟩ := e88 (S := S) (w0 := .null) (w1 := .null) (w2 := .null) (w3 := .null) (w4 := .null) (w5 := .null) (w6 := .null) (p := low + -96) tr st (or_lt hm hb (by decide)) hs (by omega)
    refine jz_eq (fun _ => q1 _) ?_
    exact jz_eq (fun _ => u83_97) (jz_end t1 rfl)
  have h73 : ∀ (s : Int), (s = 1 ∨ s = -1) → jz (jT r G) jz_0 (fun Q => jm_w S 5 83 73 [.ref u, .ref r, .int (jI high), .int (jI low), .long (lN m), .null, .int x6] [.int (jI s), .ref r] G Q) := by
    intro s hs
    refine jz_eq (fun _ => u83_73 s1) (jz_call (p86 hu st) (fun v G1 e hv => ?_))
    obtain rfl := e
    rcases hv with rfl | rfl
    · refine jz_eq (fun _ => u83_80) (jz_if (fun _ => ?_) (fun c => absurd rfl c))
      exact jz_eq (fun _ => u83_87) (h88 s 0 hs (by decide))
    · refine jz_eq (fun _ => u83_80) (jz_if (fun c => absurd c (by decide)) (fun _ => ?_))
      exact jz_eq (fun _ => u83_83) (h88 s 1 hs (by decide))
  refine jz_eq (fun _ => u83_60 s1) (jz_if (fun _ => ?_) (fun _ => ?_))
  · exact jz_eq (fun _ => u83_72) (h73 1 (Or.inl rfl))
  · exact jz_eq (fun _ => u83_68) (h73 (-1) (Or.inr rfl))
theorem l83 {r : Nat} {low high : Int} {G : jm_H} (hu : jU u) (st : jm_st G) (tr : jm_tg G r = 3) (hl : 0 ≤ low ∧ low ≤ 211) : ∀ (d m : Nat) (z : Int), z - low + 1 = d → d ≤ 45 → -1 ≤ z → z ≤ 255 → m < 2 ^ (45 - d) → jz (jT r G) jz_0 (fun Q => jm_w S 5 83 34 [.ref u, .ref r, .int (jI high), .int (jI low), .long (lN m), .null, .int (jI z)] [] G Q)
  | 0, m, z, hd, hd2, h1, h2, hm => by
    refine jz_eq (fun _ => u83_34) (jz_if (fun _ => ?_) (fun c => absurd ((jI_lt ⟨by omega, by omega⟩ ⟨by omega, by omega⟩).mpr (by omega)) c))
    exact e73 (w5 := .null) hu st tr hm hl
  | d + 1, m, z, hd, hd2, h1, h2, hm => by
    obtain ⟨s1, s2, s3, s4⟩ := su_at hu st
    refine jz_eq (fun _ => u83_34) (jz_if (fun c => ?_) (fun _ => ?_))
    · have := (jI_lt ⟨by omega, by omega⟩ ⟨by omega, by omega⟩).mp c
      omega
    · refine jz_eq (fun _ => u83_40 s1) (jz_call (p85 hu st) (fun v G1 e hv => ?_))
      obtain rfl := e
      have go : ∀ b : Nat, b ≤ 1 → jz (jT r G1) jz_0 (fun Q => jm_w S 5 83 50 [.ref u, .ref r, .int (jI high), .int (jI low), .long (lN m), .null, .int (jI z)] [.int (nI b), .long (lN m <<< (Int32.toInt64 (1 : Int32) &&& 63))] G1 Q) := by
        intro b hb
        refine jz_eq (fun _ => u83_50) ?_
        rw [show (-1 : Int32) = jI (-1) from by decide, show (1 : Int32) = nI 1 from rfl, lN_shl m (by decide), nI_l (by omega), lN_or, jI_add]
        have hm2 : m * 2 ^ 1 < 2 ^ (45 - d) := by
          rw [show 45 - d = (45 - (d + 1)) + 1 by omega, Nat.pow_succ]
          omega
        exact l83 hu st tr hl d (m * 2 ^ 1 ||| b) (z + -1) (by omega) (by omega) (by omega) (by omega) (or_lt hm2 hb (by omega))
      rcases hv with rfl | rfl
      · exact go 0 (by decide)
      · exact go 1 (by decide)
theorem z83 {r : Nat} {G : jm_H} (hu : jU u) (st : jm_st G) (tr : jm_tg G r = 3) : jz (jT r G) jz_0 (fun Q => jm_c S 83 [.ref u, .ref r] G Q) := by
  obtain ⟨s1, s2, s3, s4⟩ := su_at hu st
  refine jz_eq (fun _ => en83.trans (u83_0 s1)) (jz_if (fun _ => ?_) (fun _ => ?_))
  · refine jz_eq (fun _ => u83_12 s1) (jz_call (p84 hu st) (fun v G1 e hv => ?_))
    obtain rfl := e
    obtain ⟨z, h1, h2, rfl⟩ := hv
    refine jz_eq (fun _ => u83_16) ?_
    rw [show (45 : Int32) = jI 45 from by decide, show (1 : Int32) = jI 1 from by decide, show (0 : Int32) = jI 0 from by decide, jI_sub, jI_add]
    refine jz_eq (fun _ => c74 ⟨by decide, by decide⟩ ⟨by omega, by omega⟩) ?_
    refine jz_eq (fun _ => u83_27) ?_
    exact l83 (S := S) (low := max 0 (z - 45 + 1)) hu st tr (by omega) (z - max 0 (z - 45 + 1) + 1).toNat 0 z (by omega) (by omega) h1 h2 (Nat.two_pow_pos _)
  · obtain ⟨H1, i1, f1, q1⟩ := c70' (S := S) (H := G) tr
    refine jz_eq (fun _ => u83_7 tr) ?_
    refine jz_eq (fun _ => q1 _) ?_
    exact jz_eq (fun _ => u83_11) (jz_end ⟨f1, jf_fr_st f1 st, none, i1, trivial⟩ rfl)
theorem z42 (hu : jU u)  {G : jm_H} (hG : jS u H0 G) : jz (jS u H0) jz_0 (fun Q => jm_c S 42 [.ref u] G Q) := by
  have b24 : ∀ {x1 : Int32} {G : jm_H}, jS u H0 G → jz (jS u H0) jz_0 (fun Q => jm_w S 1 42 24 [.ref u, .int x1] [] G Q) := by
    intro x1 G hG
    have st := hG.2.2.2
    have su := su_at hu st
    have sl := jU_lt hu
    refine jz_eq (fun _ => u42_24 (su.1)) ?_
    exact jz_end (jS_pI (jS_pI (hG) (by first | exact Or.inl rfl | exact Or.inr rfl | assumption)) (by first | exact Or.inl rfl | exact Or.inr rfl | assumption)) rfl
  have loop2 : ∀ (d : Nat) (i : Nat), ∀  {G : jm_H}, i + d = 7 → jS u H0 G → jz (jS u H0) jz_0 (fun Q => jm_w S 1 42 2 [.ref u, .int (nI i)] [] G Q) := by
    intro d
    induction d with
    | zero =>
      intro i G hm hG
      have st := hG.2.2.2
      have su := su_at hu st
      have sl := jU_lt hu
      refine jz_eq (fun _ => u42_2 su.1 (by rw [su.2.2.2]; omega) (by rw [su.2.2.2]; omega) (by rw [su.2.2.2, su.2.1]; decide)) ?_
      rw [su.2.2.2, su.2.2.1]
      exact jz_if (fun _ => b24 hG) (fun c => absurd (show Int32.ofNat 7 ≤ nI i from (nI_leI (a := 7) (by decide) (by omega)).mpr (by omega)) c)
    | succ d ih =>
      intro i G hm hG
      have st := hG.2.2.2
      have su := su_at hu st
      have sl := jU_lt hu
      have eu_0 : jm_R G u 0 = u + 1 := su.2.2.2
      refine jz_eq (fun _ => u42_2 (su.1) (by simp only [eu_0]; omega) (by simp only [eu_0]; omega) (by simp only [eu_0, su.2.1]; decide)) ?_
      simp only [eu_0]
      refine jz_if (fun c2 => ?_) (fun c2 => ?_)
      · exact b24 (hG)
      · have st := hG.2.2.2
        have su := su_at hu st
        have sl := jU_lt hu
        have eu_0 : jm_R G u 0 = u + 1 := su.2.2.2
        refine jz_eq (fun _ => u42_11 (su.1) (by simp only [eu_0]; omega) (by simp only [eu_0, su.2.2.1]; exact nI_inK (by omega) (by decide)) (by simp only [eu_0]; exact su.2.1)) ?_
        simp only [eu_0]
        rw [nI_succK]
        exact ih (i + 1) (by omega) (jS_pL (hG))
  have b0 : ∀  {G : jm_H}, jS u H0 G → jz (jS u H0) jz_0 (fun Q => jm_w S 1 42 0 [.ref u, .null] [] G Q) := by
    intro G hG
    have st := hG.2.2.2
    have su := su_at hu st
    have sl := jU_lt hu
    refine jz_eq (fun _ => u42_0) ?_
    exact loop2 7 0 (by omega) (hG)
  refine jz_eq (fun _ => en42) ?_
  exact b0 (hG)
theorem z82 (hu : jU u)  {G : jm_H} (hG : jS u H0 G) : jz (jS u H0) jz_0 (fun Q => jm_c S 82 [.ref u] G Q) := by
  have b55 : ∀ {y1 : Int64} {x3 : Int32} {w4 : Value} {G : jm_H}, jS u H0 G → jz (jS u H0) jz_0 (fun Q => jm_w S 1 82 55 [.ref u, .long y1, .null, .int x3, w4, .null] [] G Q) := by
    intro y1 x3 w4 G hG
    have st := hG.2.2.2
    have su := su_at hu st
    have sl := jU_lt hu
    refine jz_eq (fun _ => u82_55) ?_
    exact jz_end (hG) rfl
  have loop4 : ∀ (d : Nat) (i : Nat), ∀ {y1 : Int64} {w4 : Value} {G : jm_H}, i + d = 7 → jS u H0 G → jz (jS u H0) jz_0 (fun Q => jm_w S 1 82 4 [.ref u, .long y1, .null, .int (nI i), w4, .null] [] G Q) := by
    intro d
    induction d with
    | zero =>
      intro i y1 w4 G hm hG
      have st := hG.2.2.2
      have su := su_at hu st
      have sl := jU_lt hu
      refine jz_eq (fun _ => u82_4 su.1 (by rw [su.2.2.2]; omega) (by rw [su.2.2.2]; omega) (by rw [su.2.2.2, su.2.1]; decide)) ?_
      rw [su.2.2.2, su.2.2.1]
      exact jz_if (fun _ => b55 hG) (fun c => absurd (show Int32.ofNat 7 ≤ nI i from (nI_leI (a := 7) (by decide) (by omega)).mpr (by omega)) c)
    | succ d ih =>
      intro i y1 w4 G hm hG
      have st := hG.2.2.2
      have su := su_at hu st
      have sl := jU_lt hu
      have eu_0 : jm_R G u 0 = u + 1 := su.2.2.2
      refine jz_eq (fun _ => u82_4 (su.1) (by simp only [eu_0]; omega) (by simp only [eu_0]; omega) (by simp only [eu_0, su.2.1]; decide)) ?_
      simp only [eu_0]
      refine jz_if (fun c4 => ?_) (fun c4 => ?_)
      · exact b55 (hG)
      · have st := hG.2.2.2
        have su := su_at hu st
        have sl := jU_lt hu
        have eu_0 : jm_R G u 0 = u + 1 := su.2.2.2
        refine jz_eq (fun _ => u82_13 (su.1) (by simp only [eu_0]; omega) (by simp only [eu_0, su.2.2.1]; exact nI_inK (by omega) (by decide)) (by simp only [eu_0]; exact su.2.1)) ?_
        simp only [eu_0]
        rw [nI_succK]
        exact ih (i + 1) (by omega) (jS_pL (hG))
  have b0 : ∀  {G : jm_H}, jS u H0 G → jz (jS u H0) jz_0 (fun Q => jm_w S 1 82 0 [.ref u, .null, .null, .null, .null, .null] [] G Q) := by
    intro G hG
    have st := hG.2.2.2
    have su := su_at hu st
    have sl := jU_lt hu
    refine jz_eq (fun _ => u82_0) ?_
    exact loop4 7 0 (by omega) (hG)
  refine jz_eq (fun _ => en82) ?_
  exact b0 (hG)
theorem z81 (hu : jU u) {y1 : Int64} {x3 x4 : Int32} {G : jm_H} (hG : jS u H0 G) : jz (jS u H0) jz_0 (fun Q => jm_c S 81 [.ref u, .long y1, .int x3, .int x4] G Q) := by
  have b120 : ∀ {y1 : Int64} {y6 : Int64} {y8 : Int64} {y10 : Int64} {y12 : Int64} {y14 : Int64} {x3 : Int32} {x4 : Int32} {x5 : Int32} {x16 : Int32} {w17 : Value} {G : jm_H}, jS u H0 G → jz (jS u H0) jz_0 (fun Q => jm_w S 2 81 120 [.ref u, .long y1, .null, .int x3, .int x4, .int x5, .long y6, .null, .long y8, .null, .long y10, .null, .long y12, .null, .long y14, .null, .int x16, w17, .null] [] G Q) := by
    intro y1 y6 y8 y10 y12 y14 x3 x4 x5 x16 w17 G hG
    have st := hG.2.2.2
    have su := su_at hu st
    have sl := jU_lt hu
    refine jz_eq (fun _ => u81_120) ?_
    exact jz_end (hG) rfl
  have loop66 : ∀ (d : Nat) (i : Nat), ∀ {y1 : Int64} {y6 : Int64} {y8 : Int64} {y10 : Int64} {y12 : Int64} {y14 : Int64} {x3 : Int32} {x4 : Int32} {x5 : Int32} {w17 : Value} {G : jm_H}, 7 ≤ i + d ∧ i < 2147483648 → jS u H0 G → jz (jS u H0) jz_0 (fun Q => jm_w S 2 81 66 [.ref u, .long y1, .null, .int x3, .int x4, .int x5, .long y6, .null, .long y8, .null, .long y10, .null, .long y12, .null, .long y14, .null, .int (nI i), w17, .null] [] G Q) := by
    intro d
    induction d with
    | zero =>
      intro i y1 y6 y8 y10 y12 y14 x3 x4 x5 w17 G hm hG
      have st := hG.2.2.2
      have su := su_at hu st
      have sl := jU_lt hu
      refine jz_eq (fun _ => u81_66 su.1 (by rw [su.2.2.2]; omega) (by rw [su.2.2.2]; omega) (by rw [su.2.2.2, su.2.1]; decide)) ?_
      rw [su.2.2.2, su.2.2.1]
      exact jz_if (fun _ => b120 hG) (fun c => absurd (show Int32.ofNat 7 ≤ nI i from (nI_leI (a := 7) (by decide) (by omega)).mpr (by omega)) c)
    | succ d ih =>
      intro i y1 y6 y8 y10 y12 y14 x3 x4 x5 w17 G hm hG
      have st := hG.2.2.2
      have su := su_at hu st
      have sl := jU_lt hu
      have eu_0 : jm_R G u 0 = u + 1 := su.2.2.2
      refine jz_eq (fun _ => u81_66 (su.1) (by simp only [eu_0]; omega) (by simp only [eu_0]; omega) (by simp only [eu_0, su.2.1]; decide)) ?_
      simp only [eu_0]
      refine jz_if (fun c66 => ?_) (fun c66 => ?_)
      · exact b120 (hG)
      · have st := hG.2.2.2
        have su := su_at hu st
        have sl := jU_lt hu
        have hi7 : i < 7 := by
          have q : ¬ 7 ≤ i := fun q => c66 (show Int32.ofNat (jm_ln G (u + 1)) ≤ nI i by rw [su.2.2.1]; exact (nI_leI (a := 7) (by decide) (by omega)).mpr q)
          omega
        have eu_0 : jm_R G u 0 = u + 1 := su.2.2.2
        refine jz_eq (fun _ => u81_76 (su.1) (by simp only [eu_0]; omega) (by simp only [eu_0, su.2.2.1]; exact nI_inK hi7 (by decide)) (by simp only [eu_0]; exact su.2.1)) ?_
        simp only [eu_0]
        rw [nI_succK]
        exact ih (i + 1) ⟨by omega, by have := hm.2; omega⟩ (jS_pL (hG))
  have b56 : ∀ {y1 : Int64} {y6 : Int64} {y8 : Int64} {y10 : Int64} {y12 : Int64} {q0 : Int64} {x3 : Int32} {x4 : Int32} {x5 : Int32} {G : jm_H}, jS u H0 G → jz (jS u H0) jz_0 (fun Q => jm_w S 2 81 56 [.ref u, .long y1, .null, .int x3, .int x4, .int x5, .long y6, .null, .long y8, .null, .long y10, .null, .long y12, .null, .null, .null, .null, .null, .null] [.long q0] G Q) := by
    intro y1 y6 y8 y10 y12 q0 x3 x4 x5 G hG
    have st := hG.2.2.2
    have su := su_at hu st
    have sl := jU_lt hu
    refine jz_eq (fun _ => u81_56) ?_
    refine jz_call (jz_pu (hG) p74n) (fun v G hG hv => ?_)
    obtain ⟨i, hi, rfl⟩ := hv
    have st := hG.2.2.2
    have su := su_at hu st
    have sl := jU_lt hu
    refine jz_eq (fun _ => u81_64) ?_
    exact loop66 7 i ⟨by omega, hi⟩ (hG)
  have b41 : ∀ {y1 : Int64} {y6 : Int64} {y8 : Int64} {y10 : Int64} {q0 : Int64} {x3 : Int32} {x4 : Int32} {x5 : Int32} {G : jm_H}, jS u H0 G → jz (jS u H0) jz_0 (fun Q => jm_w S 2 81 41 [.ref u, .long y1, .null, .int x3, .int x4, .int x5, .long y6, .null, .long y8, .null, .long y10, .null, .null, .null, .null, .null, .null, .null, .null] [.long q0] G Q) := by
    intro y1 y6 y8 y10 q0 x3 x4 x5 G hG
    have st := hG.2.2.2
    have su := su_at hu st
    have sl := jU_lt hu
    refine jz_eq (fun _ => u81_41) ?_
    refine jz_if (fun c41 => ?_) (fun c41 => ?_)
    · have st := hG.2.2.2
      have su := su_at hu st
      have sl := jU_lt hu
      refine jz_eq (fun _ => u81_53) ?_
      exact b56 (hG)
    · have st := hG.2.2.2
      have su := su_at hu st
      have sl := jU_lt hu
      refine jz_eq (fun _ => u81_48) ?_
      exact b56 (hG)
  have b0 : ∀ {y1 : Int64} {x3 : Int32} {x4 : Int32} {G : jm_H}, jS u H0 G → jz (jS u H0) jz_0 (fun Q => jm_w S 2 81 0 [.ref u, .long y1, .null, .int x3, .int x4, .null, .null, .null, .null, .null, .null, .null, .null, .null, .null, .null, .null, .null, .null] [] G Q) := by
    intro y1 x3 x4 G hG
    have st := hG.2.2.2
    have su := su_at hu st
    have sl := jU_lt hu
    refine jz_eq (fun _ => u81_0) ?_
    refine jz_if (fun c0 => ?_) (fun c0 => ?_)
    · have st := hG.2.2.2
      have su := su_at hu st
      have sl := jU_lt hu
      refine jz_eq (fun _ => u81_38) ?_
      exact b41 (hG)
    · have st := hG.2.2.2
      have su := su_at hu st
      have sl := jU_lt hu
      refine jz_eq (fun _ => u81_33) ?_
      exact b41 (hG)
  refine jz_eq (fun _ => en81) ?_
  exact b0 (hG)
theorem z80 {r1 r2 : Nat} (hu : jU u) (t1 : ∀ {G : jm_H}, jm_st G → jm_tg G r1 = 3) (t2 : ∀ {G : jm_H}, jm_st G → jm_tg G r2 = 3) {x3 : Int32} {G : jm_H} (hG : jS u H0 G) : jz (jS u H0) jz_0 (fun Q => jm_c S 80 [.ref u, .ref r1, .ref r2, .int x3] G Q) := by
  have b51 : ∀ {x3 : Int32} {G : jm_H}, jS u H0 G → jz (jS u H0) jz_0 (fun Q => jm_w S 3 80 51 [.ref u, .ref r1, .ref r2, .int x3, .null, .null] [] G Q) := by
    intro x3 G hG
    have st := hG.2.2.2
    have su := su_at hu st
    have sl := jU_lt hu
    refine jz_eq (fun _ => u80_51) ?_
    exact jz_end (hG) rfl
  have b157 : ∀ {x3 : Int32} {x4 : Int32} {x5 : Int32} {G : jm_H}, jS u H0 G → jz (jS u H0) jz_0 (fun Q => jm_w S 3 80 157 [.ref u, .ref r1, .ref r2, .int x3, .int x4, .int x5] [] G Q) := by
    intro x3 x4 x5 G hG
    have st := hG.2.2.2
    have su := su_at hu st
    have sl := jU_lt hu
    refine jz_eq (fun _ => u80_157) ?_
    exact jz_end (hG) rfl
  have b154 : ∀ {x3 : Int32} {x4 : Int32} {x5 : Int32} {p1 : Int32} {G : jm_H}, jS u H0 G → (p1 = 0 ∨ p1 = 1) → jz (jS u H0) jz_0 (fun Q => jm_w S 3 80 154 [.ref u, .ref r1, .ref r2, .int x3, .int x4, .int x5] [.int p1, .ref u] G Q) := by
    intro x3 x4 x5 p1 G hG hb
    have st := hG.2.2.2
    have su := su_at hu st
    have sl := jU_lt hu
    refine jz_eq (fun _ => u80_154 (su.1) (by first | exact Or.inl rfl | exact Or.inr rfl | assumption)) ?_
    exact b157 (jS_pI (hG) (by first | exact Or.inl rfl | exact Or.inr rfl | assumption))
  have b119 : ∀ {x3 : Int32} {x4 : Int32} {x5 : Int32} {p2 : Int32} {p3 : Int32} {q1 : Int64} {G : jm_H}, jS u H0 G → jz (jS u H0) jz_0 (fun Q => jm_w S 3 80 119 [.ref u, .ref r1, .ref r2, .int x3, .int x4, .int x5] [.int p3, .int p2, .long q1, .ref u] G Q) := by
    intro x3 x4 x5 p2 p3 q1 G hG
    have st := hG.2.2.2
    have su := su_at hu st
    have sl := jU_lt hu
    refine jz_eq (fun _ => u80_119 (su.1)) ?_
    refine jz_call (z81 hu (hG)) (fun v G hG hv => ?_)
    obtain rfl := hv
    have st := hG.2.2.2
    have su := su_at hu st
    have sl := jU_lt hu
    have eu_0 : jm_R G u 0 = u + 1 := su.2.2.2
    refine jz_eq (fun _ => u80_122 (su.1) (by simp only [eu_0]; omega) (by simp only [eu_0, su.2.2.1]; decide) (by simp only [eu_0]; exact su.2.1)) ?_
    simp only [eu_0]
    refine jz_if (fun c122 => ?_) (fun c122 => ?_)
    · exact b157 (hG)
    · have st := hG.2.2.2
      have su := su_at hu st
      have sl := jU_lt hu
      refine jz_eq (fun _ => u80_137 (su.1)) ?_
      refine jz_call (z82 hu (hG)) (fun v G hG hv => ?_)
      obtain rfl := hv
      have st := hG.2.2.2
      have su := su_at hu st
      have sl := jU_lt hu
      refine jz_eq (fun _ => u80_141 (su.1)) ?_
      refine jz_if (fun c141 => ?_) (fun c141 => ?_)
      · have st := hG.2.2.2
        have su := su_at hu st
        have sl := jU_lt hu
        refine jz_eq (fun _ => u80_153) ?_
        exact b154 (hG) (by first | exact Or.inl rfl | exact Or.inr rfl | assumption)
      · have st := hG.2.2.2
        have su := su_at hu st
        have sl := jU_lt hu
        refine jz_eq (fun _ => u80_149) ?_
        exact b154 (hG) (by first | exact Or.inl rfl | exact Or.inr rfl | assumption)
  have b81 : ∀ {x3 : Int32} {x4 : Int32} {p0 : Int32} {G : jm_H}, jS u H0 G → jz (jS u H0) jz_0 (fun Q => jm_w S 3 80 81 [.ref u, .ref r1, .ref r2, .int x3, .int x4, .null] [.int p0] G Q) := by
    intro x3 x4 p0 G hG
    have st := hG.2.2.2
    have su := su_at hu st
    have sl := jU_lt hu
    refine jz_eq (fun _ => u80_81 ((t1 st)) ((t2 st)) (su.1)) ?_
    refine jz_if (fun c81 => ?_) (fun c81 => ?_)
    · have st := hG.2.2.2
      have su := su_at hu st
      have sl := jU_lt hu
      refine jz_eq (fun _ => u80_118) ?_
      exact b119 (hG)
    · have st := hG.2.2.2
      have su := su_at hu st
      have sl := jU_lt hu
      refine jz_eq (fun _ => u80_114) ?_
      exact b119 (hG)
  have b68 : ∀ {x3 : Int32} {p0 : Int32} {G : jm_H}, jS u H0 G → jz (jS u H0) jz_0 (fun Q => jm_w S 3 80 68 [.ref u, .ref r1, .ref r2, .int x3, .null, .null] [.int p0] G Q) := by
    intro x3 p0 G hG
    have st := hG.2.2.2
    have su := su_at hu st
    have sl := jU_lt hu
    refine jz_eq (fun _ => u80_68) ?_
    refine jz_if (fun c68 => ?_) (fun c68 => ?_)
    · have st := hG.2.2.2
      have su := su_at hu st
      have sl := jU_lt hu
      refine jz_eq (fun _ => u80_80) ?_
      exact b81 (hG)
    · have st := hG.2.2.2
      have su := su_at hu st
      have sl := jU_lt hu
      refine jz_eq (fun _ => u80_76) ?_
      exact b81 (hG)
  have b37 : ∀ {x3 : Int32} {G : jm_H}, jS u H0 G → jz (jS u H0) jz_0 (fun Q => jm_w S 3 80 37 [.ref u, .ref r1, .ref r2, .int x3, .null, .null] [] G Q) := by
    intro x3 G hG
    have st := hG.2.2.2
    have su := su_at hu st
    have sl := jU_lt hu
    refine jz_eq (fun _ => u80_37 ((t1 st))) ?_
    refine jz_if (fun c37 => ?_) (fun c37 => ?_)
    · exact b51 (hG)
    · have st := hG.2.2.2
      have su := su_at hu st
      have sl := jU_lt hu
      refine jz_eq (fun _ => u80_44 ((t2 st))) ?_
      refine jz_if (fun c44 => ?_) (fun c44 => ?_)
      · have st := hG.2.2.2
        have su := su_at hu st
        have sl := jU_lt hu
        refine jz_eq (fun _ => u80_52 ((t1 st)) ((t2 st))) ?_
        refine jz_if (fun c52 => ?_) (fun c52 => ?_)
        · have st := hG.2.2.2
          have su := su_at hu st
          have sl := jU_lt hu
          refine jz_eq (fun _ => u80_67) ?_
          exact b68 (hG)
        · have st := hG.2.2.2
          have su := su_at hu st
          have sl := jU_lt hu
          refine jz_eq (fun _ => u80_63) ?_
          exact b68 (hG)
      · exact b51 (hG)
  have b27 : ∀ {x3 : Int32} {p1 : Int32} {G : jm_H}, jS u H0 G → (p1 = 0 ∨ p1 = 1) → jz (jS u H0) jz_0 (fun Q => jm_w S 3 80 27 [.ref u, .ref r1, .ref r2, .int x3, .null, .null] [.int p1, .ref u] G Q) := by
    intro x3 p1 G hG hb
    have st := hG.2.2.2
    have su := su_at hu st
    have sl := jU_lt hu
    refine jz_eq (fun _ => u80_27 (su.1) (by first | exact Or.inl rfl | exact Or.inr rfl | assumption) (su.1)) ?_
    refine jz_if (fun c27 => ?_) (fun c27 => ?_)
    · exact b51 (jS_pI (hG) (by first | exact Or.inl rfl | exact Or.inr rfl | assumption))
    · exact b37 (jS_pI (hG) (by first | exact Or.inl rfl | exact Or.inr rfl | assumption))
  have b22 : ∀ {x3 : Int32} {G : jm_H}, jS u H0 G → jz (jS u H0) jz_0 (fun Q => jm_w S 3 80 22 [.ref u, .ref r1, .ref r2, .int x3, .null, .null] [.ref u] G Q) := by
    intro x3 G hG
    have st := hG.2.2.2
    have su := su_at hu st
    have sl := jU_lt hu
    refine jz_eq (fun _ => u80_22) ?_
    exact b27 (hG) (by first | exact Or.inl rfl | exact Or.inr rfl | assumption)
  have b0 : ∀ {x3 : Int32} {G : jm_H}, jS u H0 G → jz (jS u H0) jz_0 (fun Q => jm_w S 3 80 0 [.ref u, .ref r1, .ref r2, .int x3, .null, .null] [] G Q) := by
    intro x3 G hG
    have st := hG.2.2.2
    have su := su_at hu st
    have sl := jU_lt hu
    refine jz_eq (fun _ => u80_0 (su.1)) ?_
    refine jz_if (fun c0 => ?_) (fun c0 => ?_)
    · exact b22 (hG)
    · have st := hG.2.2.2
      have su := su_at hu st
      have sl := jU_lt hu
      refine jz_eq (fun _ => u80_8 ((t1 st))) ?_
      refine jz_if (fun c8 => ?_) (fun c8 => ?_)
      · exact b22 (hG)
      · have st := hG.2.2.2
        have su := su_at hu st
        have sl := jU_lt hu
        refine jz_eq (fun _ => u80_15 ((t2 st))) ?_
        refine jz_if (fun c15 => ?_) (fun c15 => ?_)
        · have st := hG.2.2.2
          have su := su_at hu st
          have sl := jU_lt hu
          refine jz_eq (fun _ => u80_26) ?_
          exact b27 (hG) (by first | exact Or.inl rfl | exact Or.inr rfl | assumption)
        · exact b22 (hG)
  refine jz_eq (fun _ => en80) ?_
  exact b0 (hG)
theorem z101 (hu : jU u) {G : jm_H} (st : jm_st G) : jz (jE G) jz_I (fun Q => jm_c S 101 [.ref u] G Q) := by
  obtain ⟨s1, s2, s3, s4⟩ := su_at hu st
  refine jz_eq (fun _ => en101.trans (u101_0 s1)) (jz_call (p84 hu st) (fun v G1 e hv => ?_))
  obtain rfl := e
  obtain ⟨z, h1, h2, rfl⟩ := hv
  refine jz_eq (fun _ => u101_4) (jz_if (fun _ => ?_) (fun _ => ?_))
  · refine jz_eq (fun _ => u101_11 s1) (jz_if (fun _ => ?_) (fun _ => ?_))
    · exact jz_eq (fun _ => u101_22.trans u101_23) (jz_end rfl ⟨_, rfl⟩)
    · exact jz_eq (fun _ => u101_18.trans u101_23) (jz_end rfl ⟨_, rfl⟩)
  · exact jz_eq (fun _ => u101_7.trans u101_23) (jz_end rfl ⟨_, rfl⟩)
theorem z153 (hu : jU u) {G : jm_H} (st : jm_st G) : jz (jE G) jz_I (fun Q => jm_c S 153 [.ref u] G Q) := by
  obtain ⟨s1, s2, s3, s4⟩ := su_at hu st
  refine jz_eq (fun _ => en153.trans (u153_0 s1)) (jz_call (p84 hu st) (fun v G1 e hv => ?_))
  obtain rfl := e
  obtain ⟨z, h1, h2, rfl⟩ := hv
  exact jz_eq (fun _ => u153_4) (jz_end rfl ⟨_, rfl⟩)
theorem z146 (hu : jU u) {G : jm_H} (st : jm_st G) {x : Int32} : jz (jE G) jz_I (fun Q => jm_c S 146 [.ref u, .int x] G Q) := by
  obtain ⟨s1, s2, s3, s4⟩ := su_at hu st
  refine jz_eq (fun _ => en146.trans (u146_0 s1)) (jz_call (p85 hu st) (fun v G1 e hv => ?_))
  obtain rfl := e
  rcases hv with rfl | rfl
  · exact jz_eq (fun _ => u146_8) (jz_end rfl ⟨_, rfl⟩)
  · exact jz_eq (fun _ => u146_8) (jz_end rfl ⟨_, rfl⟩)
/-- a number's whole one: it comes to an end -/
theorem z109 {r : Nat} {x : Option (Int × Nat × Int)} {G : jm_H} (tr : jm_tg G r = 3) (hi : jq_is G r x) (hx : jq_ok x) : jz (jE G) jz_I (fun Q => jm_c S 109 [.ref r] G Q) := by
  have h14 : jz (jE G) jz_I (fun Q => jm_w S 4 109 14 [.ref r, .null, .null, .null, .null, .null, .null] [] G Q) := jz_eq (fun _ => u109_14) (jz_end rfl ⟨_, rfl⟩)
  refine jz_eq (fun _ => en109.trans (u109_0 tr)) (jz_if (fun _ => h14) (fun c0 => ?_))
  refine jz_eq (fun _ => u109_7 tr) (jz_if (fun c7 => ?_) (fun _ => h14))
  cases x with
  | none =>
    have h1 : jm_I G r 1 = 1 := hi
    rw [h1] at c0
    exact absurd (by decide) c0
  | some y =>
    obtain ⟨s, m, p⟩ := y
    obtain ⟨i1, i2, i3, i4⟩ := hi
    obtain ⟨o1, o2, o3, o4, o5, o6⟩ := hx
    dsimp only at i2 i3 i4 o1 o2 o3 o4 o5 o6
    have hs : s ≠ 0 := fun g => by rw [i2, g] at c7; exact c7 (by decide)
    have hm : 0 < m := Nat.pos_of_ne_zero (fun g => hs (o2.mpr g))
    have ho := o6 hs
    have e59 : ∀ Q, jm_c S 59 [.ref r] G Q = Q (some (.int (jI (Nat.log2 m + p)))) G := fun Q => c59 tr i3 i4 hm (by omega)
    refine jz_eq (fun _ => (u109_16 tr).trans (e59 _)) ?_
    refine jz_eq (fun _ => u109_20) (jz_if (fun c20 => ?_) (fun _ => jz_eq (fun _ => u109_25 tr) (jz_end rfl ⟨_, rfl⟩)))
    have h30 : (Nat.log2 m : Int) + p ≤ 30 := (jI_le (b := 30) ⟨by omega, by omega⟩ (by decide)).mp c20
    refine jz_eq (fun _ => (u109_33 tr).trans (e59 _)) ?_
    refine jz_eq (fun _ => u109_37) (jz_if (fun _ => ?_) (fun _ => jz_eq (fun _ => u109_41) (jz_end rfl ⟨_, rfl⟩)))
    refine jz_eq (fun _ => u109_43 tr) ?_
    rw [i3, i4, show (2 : Int32) = jI 2 from by decide, jI_add]
    refine jz_eq (fun _ => c56 o3 (by omega) (by omega)) ?_
    have h98 : ∀ {y1 y3 y5 : Int64}, jz (jE G) jz_I (fun Q => jm_w S 4 109 98 [.ref r, .long y1, .null, .long y3, .null, .long y5, .null] [] G Q) := by
      intro y1 y3 y5
      refine jz_eq (fun _ => u109_98 tr) (jz_call (p110 rfl) (fun v G1 e hv => ?_))
      obtain rfl := e
      obtain ⟨q, rfl⟩ := hv
      exact jz_eq (fun _ => u109_109) (jz_end rfl ⟨_, rfl⟩)
    have h94 : ∀ {y1 y3 y5 : Int64}, jz (jE G) jz_I (fun Q => jm_w S 4 109 94 [.ref r, .long y1, .null, .long y3, .null, .long y5, .null] [] G Q) := fun {y1 y3 y5} => jz_eq (fun _ => u109_94) h98
    refine jz_eq (fun _ => u109_56) (jz_if (fun _ => h94) (fun _ => ?_))
    refine jz_eq (fun _ => u109_77) (jz_if (fun _ => h98) (fun _ => ?_))
    exact jz_eq (fun _ => u109_86) (jz_if (fun _ => h98) (fun _ => h94))
end SUMS
