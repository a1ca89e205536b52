set_option maxRecDepth 20000
/-! the class's reader comes to an end on every tape -/
def jE (H0 G : jm_H) : Prop := G = H0
def jz_L (v : Option Value) : Prop := ∃ x : Int64, v = some (.long x)
theorem jz_pu {K : jm_H → Prop} {R : Option Value → Prop} {G : jm_H} {x : (Option Value → jm_H → Prop) → Prop} (hk : K G) (h : jz (jE G) R x) : jz K R x := jz_mono h (fun X e => by rw [show X = G from e]; exact hk) (fun _ r => r)
theorem idx_of {x : Int32} {n : Nat} (hn : n < 2147483648) (h0 : 0 ≤ x.toInt) (h : x.toInt < n) : ¬ (x < 0 ∨ n ≤ x.toNatClampNeg) := by
  obtain ⟨m, hm, rfl⟩ := ji_nn h0 h
  exact nI_inK hm hn
theorem ti_lt0 {x : Int32} (c : ¬ x < 0) : 0 ≤ x.toInt := by
  have : ¬ x.toInt < (0 : Int32).toInt := fun q => c (Int32.lt_iff_toInt_lt.mpr q)
  rw [i32_0] at this
  omega
theorem ti_lt {x : Int32} {n : Nat} (hn : n < 2147483648) (c : x < Int32.ofNat n) : x.toInt < n := by
  have h := Int32.lt_iff_toInt_lt.mp c
  have e : (Int32.ofNat n).toInt = n := nI_toInt hn
  omega
theorem ti_nle {x : Int32} {n : Nat} (hn : n < 2147483648) (c : ¬ Int32.ofNat n ≤ x) : x.toInt < n := by
  have e : (Int32.ofNat n).toInt = n := nI_toInt hn
  have : ¬ (Int32.ofNat n).toInt ≤ x.toInt := fun q => c (Int32.le_iff_toInt_le.mpr q)
  omega
theorem ti_succ {x : Int32} (h : x.toInt < 2147483647) : (x + 1).toInt = x.toInt + 1 := by
  have h2 := Int32.le_toInt x
  rw [show x + 1 = jI (x.toInt + 1) by rw [← jI_add, ← jI_of]; rfl]
  exact jI_t ⟨by omega, by omega⟩
section READP
variable {S : Option (Nat × (Nat → Int32))} {H0 : jm_H}
theorem p21 {x0 : Int32} {G : jm_H} (hG : jE H0 G) : jz (jE H0) jz_I (fun Q => jm_c S 21 [.int x0] G Q) := by
  have b29 : ∀ {x0 : Int32} {p0 : Int32} {G : jm_H}, jE H0 G → (p0 = 0 ∨ p0 = 1) → jz (jE H0) jz_I (fun Q => jm_w S 1 21 29 [.int x0] [.int p0] G Q) := by
    intro x0 p0 G hG hb
    have st := True.intro
    refine jz_eq (fun _ => u21_29 (by first | exact Or.inl rfl | exact Or.inr rfl | assumption)) ?_
    exact jz_end (hG) ⟨_, rfl⟩
  have b24 : ∀ {x0 : Int32} {G : jm_H}, jE H0 G → jz (jE H0) jz_I (fun Q => jm_w S 1 21 24 [.int x0] [] G Q) := by
    intro x0 G hG
    have st := True.intro
    refine jz_eq (fun _ => u21_24) ?_
    exact b29 (hG) (by first | exact Or.inl rfl | exact Or.inr rfl | assumption)
  have b0 : ∀ {x0 : Int32} {G : jm_H}, jE H0 G → jz (jE H0) jz_I (fun Q => jm_w S 1 21 0 [.int x0] [] G Q) := by
    intro x0 G hG
    have st := True.intro
    refine jz_eq (fun _ => u21_0) ?_
    refine jz_if (fun c0 => ?_) (fun c0 => ?_)
    · exact b24 (hG)
    · have st := True.intro
      refine jz_eq (fun _ => u21_6) ?_
      refine jz_if (fun c6 => ?_) (fun c6 => ?_)
      · exact b24 (hG)
      · have st := True.intro
        refine jz_eq (fun _ => u21_12) ?_
        refine jz_if (fun c12 => ?_) (fun c12 => ?_)
        · exact b24 (hG)
        · have st := True.intro
          refine jz_eq (fun _ => u21_18) ?_
          refine jz_if (fun c18 => ?_) (fun c18 => ?_)
          · have st := True.intro
            refine jz_eq (fun _ => u21_28) ?_
            exact b29 (hG) (by first | exact Or.inl rfl | exact Or.inr rfl | assumption)
          · exact b24 (hG)
  refine jz_eq (fun _ => en21) ?_
  exact b0 (hG)
theorem p22 {x0 : Int32} {G : jm_H} (hG : jE H0 G) : jz (jE H0) jz_I (fun Q => jm_c S 22 [.int x0] G Q) := by
  have b17 : ∀ {x0 : Int32} {p0 : Int32} {G : jm_H}, jE H0 G → (p0 = 0 ∨ p0 = 1) → jz (jE H0) jz_I (fun Q => jm_w S 1 22 17 [.int x0] [.int p0] G Q) := by
    intro x0 p0 G hG hb
    have st := True.intro
    refine jz_eq (fun _ => u22_17 (by first | exact Or.inl rfl | exact Or.inr rfl | assumption)) ?_
    exact jz_end (hG) ⟨_, rfl⟩
  have b16 : ∀ {x0 : Int32} {G : jm_H}, jE H0 G → jz (jE H0) jz_I (fun Q => jm_w S 1 22 16 [.int x0] [] G Q) := by
    intro x0 G hG
    have st := True.intro
    refine jz_eq (fun _ => u22_16) ?_
    exact b17 (hG) (by first | exact Or.inl rfl | exact Or.inr rfl | assumption)
  have b0 : ∀ {x0 : Int32} {G : jm_H}, jE H0 G → jz (jE H0) jz_I (fun Q => jm_w S 1 22 0 [.int x0] [] G Q) := by
    intro x0 G hG
    have st := True.intro
    refine jz_eq (fun _ => u22_0) ?_
    refine jz_if (fun c0 => ?_) (fun c0 => ?_)
    · exact b16 (hG)
    · have st := True.intro
      refine jz_eq (fun _ => u22_6) ?_
      refine jz_if (fun c6 => ?_) (fun c6 => ?_)
      · exact b16 (hG)
      · have st := True.intro
        refine jz_eq (fun _ => u22_12) ?_
        exact b17 (hG) (by first | exact Or.inl rfl | exact Or.inr rfl | assumption)
  refine jz_eq (fun _ => en22) ?_
  exact b0 (hG)
theorem p25 {x0 : Int32} {G : jm_H} (hG : jE H0 G) : jz (jE H0) jz_I (fun Q => jm_c S 25 [.int x0] G Q) := by
  have b17 : ∀ {x0 : Int32} {p0 : Int32} {G : jm_H}, jE H0 G → (p0 = 0 ∨ p0 = 1) → jz (jE H0) jz_I (fun Q => jm_w S 1 25 17 [.int x0] [.int p0] G Q) := by
    intro x0 p0 G hG hb
    have st := True.intro
    refine jz_eq (fun _ => u25_17 (by first | exact Or.inl rfl | exact Or.inr rfl | assumption)) ?_
    exact jz_end (hG) ⟨_, rfl⟩
  have b16 : ∀ {x0 : Int32} {G : jm_H}, jE H0 G → jz (jE H0) jz_I (fun Q => jm_w S 1 25 16 [.int x0] [] G Q) := by
    intro x0 G hG
    have st := True.intro
    refine jz_eq (fun _ => u25_16) ?_
    exact b17 (hG) (by first | exact Or.inl rfl | exact Or.inr rfl | assumption)
  have b0 : ∀ {x0 : Int32} {G : jm_H}, jE H0 G → jz (jE H0) jz_I (fun Q => jm_w S 1 25 0 [.int x0] [] G Q) := by
    intro x0 G hG
    have st := True.intro
    refine jz_eq (fun _ => u25_0) ?_
    refine jz_if (fun c0 => ?_) (fun c0 => ?_)
    · exact b16 (hG)
    · have st := True.intro
      refine jz_eq (fun _ => u25_6) ?_
      refine jz_if (fun c6 => ?_) (fun c6 => ?_)
      · exact b16 (hG)
      · have st := True.intro
        refine jz_eq (fun _ => u25_12) ?_
        exact b17 (hG) (by first | exact Or.inl rfl | exact Or.inr rfl | assumption)
  refine jz_eq (fun _ => en25) ?_
  exact b0 (hG)
theorem p27 {x0 : Int32} {G : jm_H} (hG : jE H0 G) : jz (jE H0) jz_I (fun Q => jm_c S 27 [.int x0] G Q) := by
  have b29 : ∀ {x0 : Int32} {p0 : Int32} {G : jm_H}, jE H0 G → (p0 = 0 ∨ p0 = 1) → jz (jE H0) jz_I (fun Q => jm_w S 1 27 29 [.int x0] [.int p0] G Q) := by
    intro x0 p0 G hG hb
    have st := True.intro
    refine jz_eq (fun _ => u27_29 (by first | exact Or.inl rfl | exact Or.inr rfl | assumption)) ?_
    exact jz_end (hG) ⟨_, rfl⟩
  have b24 : ∀ {x0 : Int32} {G : jm_H}, jE H0 G → jz (jE H0) jz_I (fun Q => jm_w S 1 27 24 [.int x0] [] G Q) := by
    intro x0 G hG
    have st := True.intro
    refine jz_eq (fun _ => u27_24) ?_
    exact b29 (hG) (by first | exact Or.inl rfl | exact Or.inr rfl | assumption)
  have b12 : ∀ {x0 : Int32} {G : jm_H}, jE H0 G → jz (jE H0) jz_I (fun Q => jm_w S 1 27 12 [.int x0] [] G Q) := by
    intro x0 G hG
    have st := True.intro
    refine jz_eq (fun _ => u27_12) ?_
    refine jz_if (fun c12 => ?_) (fun c12 => ?_)
    · exact b24 (hG)
    · have st := True.intro
      refine jz_eq (fun _ => u27_18) ?_
      refine jz_if (fun c18 => ?_) (fun c18 => ?_)
      · have st := True.intro
        refine jz_eq (fun _ => u27_28) ?_
        exact b29 (hG) (by first | exact Or.inl rfl | exact Or.inr rfl | assumption)
      · exact b24 (hG)
  have b0 : ∀ {x0 : Int32} {G : jm_H}, jE H0 G → jz (jE H0) jz_I (fun Q => jm_w S 1 27 0 [.int x0] [] G Q) := by
    intro x0 G hG
    have st := True.intro
    refine jz_eq (fun _ => u27_0) ?_
    refine jz_if (fun c0 => ?_) (fun c0 => ?_)
    · exact b12 (hG)
    · have st := True.intro
      refine jz_eq (fun _ => u27_6) ?_
      refine jz_if (fun c6 => ?_) (fun c6 => ?_)
      · exact b24 (hG)
      · exact b12 (hG)
  refine jz_eq (fun _ => en27) ?_
  exact b0 (hG)
theorem p24 {y0 : Int64} {G : jm_H} (hG : jE H0 G) : jz (jE H0) jz_I (fun Q => jm_c S 24 [.long y0] G Q) := by
  have b45 : ∀ {y0 : Int64} {p0 : Int32} {G : jm_H}, jE H0 G → jz (jE H0) jz_I (fun Q => jm_w S 1 24 45 [.long y0, .null] [.int p0] G Q) := by
    intro y0 p0 G hG
    have st := True.intro
    refine jz_eq (fun _ => u24_45) ?_
    exact jz_end (hG) ⟨_, rfl⟩
  have b0 : ∀ {y0 : Int64} {G : jm_H}, jE H0 G → jz (jE H0) jz_I (fun Q => jm_w S 1 24 0 [.long y0, .null] [] G Q) := by
    intro y0 G hG
    have st := True.intro
    refine jz_eq (fun _ => u24_0) ?_
    refine jz_if (fun c0 => ?_) (fun c0 => ?_)
    · have st := True.intro
      refine jz_eq (fun _ => u24_10) ?_
      refine jz_if (fun c10 => ?_) (fun c10 => ?_)
      · have st := True.intro
        refine jz_eq (fun _ => u24_20) ?_
        refine jz_if (fun c20 => ?_) (fun c20 => ?_)
        · have st := True.intro
          refine jz_eq (fun _ => u24_31) ?_
          refine jz_if (fun c31 => ?_) (fun c31 => ?_)
          · have st := True.intro
            refine jz_eq (fun _ => u24_44) ?_
            exact b45 (hG)
          · have st := True.intro
            refine jz_eq (fun _ => u24_39) ?_
            exact b45 (hG)
        · have st := True.intro
          refine jz_eq (fun _ => u24_28) ?_
          exact jz_end (hG) ⟨_, rfl⟩
      · have st := True.intro
        refine jz_eq (fun _ => u24_18) ?_
        exact jz_end (hG) ⟨_, rfl⟩
    · have st := True.intro
      refine jz_eq (fun _ => u24_8) ?_
      exact jz_end (hG) ⟨_, rfl⟩
  refine jz_eq (fun _ => en24) ?_
  exact b0 (hG)
theorem p20 {G : jm_H} {x : Int32} (st : jm_st G) : jz (jE G) jz_I (fun Q => jm_c S 20 [.ref 4, .int x] G Q) := by
  have r := st_r4_0 st
  have b21 : jz (jE G) jz_I (fun Q => jm_w S 1 20 21 [.ref 4, .int x] [] G Q) := jz_eq (fun _ => u20_21.trans u20_35) (jz_end rfl ⟨_, rfl⟩)
  refine jz_eq (fun _ => en20.trans u20_0) (jz_if (fun _ => b21) (fun c1 => ?_))
  refine jz_eq (fun _ => u20_4 (st_t4 st)) (jz_if (fun _ => b21) (fun _ => ?_))
  refine jz_eq (fun _ => u20_12 (st_t4 st) (by rw [r]; decide) (by rw [r]; decide) (by rw [r, st_t5 st]; decide)) ?_
  rw [r, st_l5 st]
  refine jz_if (fun c2 => ?_) (fun _ => b21)
  exact jz_eq (fun _ => (u20_25 (st_t4 st) (by rw [r]; decide) (by rw [r, st_l5 st]; exact idx_of (by decide) (ti_lt0 c1) (ti_lt (by decide) c2)) (by rw [r]; exact Or.inl (st_t5 st))).trans u20_35) (jz_end rfl ⟨_, rfl⟩)
end READP
theorem jno_3 : jv_no 3 := by unfold jv_no js_S js_U; omega
theorem jno_t1 {t : Nat} (ht : t = 7 ∨ t = 177) : jv_no (t + 1) := by unfold jv_no js_S js_U; omega
theorem jno_t2 {t : Nat} (ht : t = 7 ∨ t = 177) : jv_no (t + 2) := by unfold jv_no js_S js_U; omega
theorem jv_txt {t k : Nat} {v : Int32} (ht : t = 7 ∨ t = 177) (h2 : k = 2 → 0 ≤ v.toInt ∧ v.toInt ≤ 400) (h3 : k = 3 → 0 ≤ v.toInt ∧ v.toInt ≤ 8) : jv t k v := by
  refine ⟨fun g => ?_, fun g => ?_, fun g => ?_, fun g => ?_, fun g => ?_, fun _ => ⟨h2, h3⟩, fun g => ?_⟩ <;> exfalso <;> revert g <;> (try unfold js_S) <;> (try unfold js_U) <;> omega
/-- in the reader: the text that it reads into stays the same -/
def jR (Z : Int32 → Int32 → Prop) (t : Nat) (H0 G : jm_H) : Prop := jK H0 G ∧ jm_R G 3 2 = t ∧ Z (jm_I G t 4) (jm_I G t 5)
theorem jR_st {Z : Int32 → Int32 → Prop} {t : Nat} {H0 G : jm_H} (h : jR Z t H0 G) : jm_st G := h.1.1.1
theorem jR_pI {Z : Int32 → Int32 → Prop} {t r k : Nat} {v : Int32} {H0 G : jm_H} (h : jR Z t H0 G) (hr : r < 180) (hn : r ≠ t ∨ (k ≠ 4 ∧ k ≠ 5)) (hv : jv r k v) : jR Z t H0 (jm_pI G r k v) := ⟨jK_pI h.1 hr hv, h.2.1, by rw [jm_I_pI, if_neg (by omega), jm_I_pI, if_neg (by omega)]; exact h.2.2⟩
theorem jR_pL {Z : Int32 → Int32 → Prop} {t r k : Nat} {v : Int64} {H0 G : jm_H} (h : jR Z t H0 G) (hr : r < 180) : jR Z t H0 (jm_pL G r k v) := ⟨jK_pL h.1 hr, h.2⟩
theorem tx_ck : (jm_fl.contains (7, 10, 0) && jm_fl.contains (8, 100, 400) && jm_fl.contains (9, 100, 400) && jm_rl.contains (7, 0, 8) && jm_rl.contains (7, 1, 9) && jm_fl.contains (177, 10, 0) && jm_fl.contains (178, 100, 400) && jm_fl.contains (179, 100, 400) && jm_rl.contains (177, 0, 178) && jm_rl.contains (177, 1, 179)) = true := by decide +kernel
theorem tx_at {t : Nat} {G : jm_H} (ht : t = 7 ∨ t = 177) (st : jm_st G) : jm_tg G t = 10 ∧ jm_tg G (t + 1) = 100 ∧ jm_ln G (t + 1) = 400 ∧ jm_tg G (t + 2) = 100 ∧ jm_ln G (t + 2) = 400 ∧ jm_R G t 0 = t + 1 ∧ jm_R G t 1 = t + 2 := by
  have g := tx_ck
  simp only [Bool.and_eq_true, List.contains_iff_mem] at g
  obtain ⟨⟨⟨⟨⟨⟨⟨⟨⟨a1, a2⟩, a3⟩, a4⟩, a5⟩, b1⟩, b2⟩, b3⟩, b4⟩, b5⟩ := g
  rcases ht with rfl | rfl
  · exact ⟨(st.1 _ a1).1, (st.1 _ a2).1, (st.1 _ a2).2, (st.1 _ a3).1, (st.1 _ a3).2, st.2.1 _ a4, st.2.1 _ a5⟩
  · exact ⟨(st.1 _ b1).1, (st.1 _ b2).1, (st.1 _ b2).2, (st.1 _ b3).1, (st.1 _ b3).2, st.2.1 _ b4, st.2.1 _ b5⟩
theorem tx_len {Z : Int32 → Int32 → Prop} {t : Nat} {H0 G : jm_H} (ht : t = 7 ∨ t = 177) (h : jR Z t H0 G) : 0 ≤ (jm_I G t 2).toInt ∧ (jm_I G t 2).toInt ≤ 400 := ((h.1.1.2.2 t 2).2.2.2.2.2.1 (by omega)).1 rfl
theorem tx_nam {Z : Int32 → Int32 → Prop} {t : Nat} {H0 G : jm_H} (ht : t = 7 ∨ t = 177) (h : jR Z t H0 G) : 0 ≤ (jm_I G t 3).toInt ∧ (jm_I G t 3).toInt ≤ 8 := ((h.1.1.2.2 t 3).2.2.2.2.2.1 (by omega)).2 rfl
theorem tx_i8 {Z : Int32 → Int32 → Prop} {t : Nat} {H0 G : jm_H} (ht : t = 7 ∨ t = 177) (h : jR Z t H0 G) (c : ¬ Int32.ofNat 8 ≤ jm_I G t 3) : ¬ (jm_I G t 3 < 0 ∨ 8 ≤ (jm_I G t 3).toNatClampNeg) := idx_of (by decide) (tx_nam ht h).1 (ti_nle (by decide) c)
theorem tx_s8 {Z : Int32 → Int32 → Prop} {t : Nat} {H0 G : jm_H} (ht : t = 7 ∨ t = 177) (h : jR Z t H0 G) (c : ¬ Int32.ofNat 8 ≤ jm_I G t 3) : 0 ≤ (jm_I G t 3 + 1).toInt ∧ (jm_I G t 3 + 1).toInt ≤ 8 := by
  have h1 := tx_nam ht h
  have h2 := ti_nle (by decide) c
  rw [ti_succ (by omega)]
  omega
def jz_in (a b : Int32) (v : Option Value) : Prop := ∃ x : Int32, v = some (.int x) ∧ a.toInt ≤ x.toInt ∧ x.toInt ≤ b.toInt
theorem cmp_in {a b : Int32} {y : Int64} (c1 : ¬ lg_cmp y (Int32.toInt64 a) < 0) (c2 : lg_cmp y (Int32.toInt64 b) ≤ 0) : a.toInt ≤ (Int64.toInt32 y).toInt ∧ (Int64.toInt32 y).toInt ≤ b.toInt := by
  rw [lg_cmp_lt] at c1
  rw [lg_cmp_le] at c2
  have g1 : ¬ y.toInt < (Int32.toInt64 a).toInt := fun q => c1 (Int64.lt_iff_toInt_lt.mpr q)
  have g2 : y.toInt ≤ (Int32.toInt64 b).toInt := Int64.le_iff_toInt_le.mp c2
  rw [Int32.toInt_toInt64] at g1 g2
  have ha := j3_t a
  have hb := j3_t b
  have e : (Int64.toInt32 y).toInt = y.toInt := by
    have hy : Int64.toInt32 y = jI y.toInt := by
      have h := lI_i y.toInt
      rw [← lI_of y] at h
      exact h
    rw [hy]
    exact jI_t ⟨by have := ha.1; omega, by have := hb.2; omega⟩
  rw [e]
  omega
theorem i400 {i : Nat} (hi : i ≤ 400) (c : ¬ (400 : Int32) < nI i + 1) : i + 1 ≤ 400 := by
  rw [nI_succK] at c
  have : ¬ 400 < i + 1 := fun q => c (show (400 : Int32) < nI (i + 1) from (nI_ltI (a := 400) (by decide) (by omega)).mpr q)
  omega
theorem rk34 {k : Nat} (hk : k ≤ 9) : jm_rk 34 [.ref 3, .int (nI k)] = 9 + 4 * (9 - k) := by
  have e := nI_cl (k := k) (by omega)
  show 5 + 4 * (9 - (nI k).toNatClampNeg) + 4 = _
  rw [e]; omega
theorem rk35 {k : Nat} (hk : k ≤ 9) : jm_rk 35 [.ref 3, .int (nI k)] = 8 + 4 * (9 - k) := by
  have e := nI_cl (k := k) (by omega)
  show 5 + 4 * (9 - (nI k).toNatClampNeg) + 3 = _
  rw [e]; omega
theorem rk36 {k : Nat} (hk : k ≤ 9) : jm_rk 36 [.ref 3, .int (nI k)] = 7 + 4 * (9 - k) := by
  have e := nI_cl (k := k) (by omega)
  show 5 + 4 * (9 - (nI k).toNatClampNeg) + 2 = _
  rw [e]; omega
theorem rk39 {k : Nat} (hk : k ≤ 9) : jm_rk 39 [.ref 3, .int (nI k)] = 6 + 4 * (9 - k) := by
  have e := nI_cl (k := k) (by omega)
  show 5 + 4 * (9 - (nI k).toNatClampNeg) + 1 = _
  rw [e]; omega
theorem rk40 {k : Nat} (hk : k ≤ 9) : jm_rk 40 [.ref 3, .int (nI k)] = 6 + 4 * (9 - k) := by
  have e := nI_cl (k := k) (by omega)
  show 5 + 4 * (9 - (nI k).toNatClampNeg) + 1 = _
  rw [e]; omega
section READ
variable {S : Option (Nat × (Nat → Int32))} {Z : Int32 → Int32 → Prop} {t : Nat} {H0 : jm_H}
theorem l19 (ht : t = 7 ∨ t = 177) (E : ∀ {G : jm_H}, jR Z t H0 G → jz (jR Z t H0) jz_0 (fun Q => jm_w S 3 19 44 [.ref 3, .null] [] G Q)) : ∀ (d : Nat) {G : jm_H}, jR Z t H0 G → 2000 < (jm_I G 3 4).toInt + d → jz (jR Z t H0) jz_0 (fun Q => jm_w S 3 19 0 [.ref 3, .null] [] G Q)
  | 0, G, hG, hd => by
    have st := jR_st hG
    have r := st_r3_0 st
    obtain ⟨n, hn, en⟩ := jk_len hG.1.1 js_t4
    refine jz_eq (fun _ => u19_0 (st_t3 st) (by rw [r]; decide) (by rw [r]; exact st_t4 st)) ?_
    rw [r, en]
    exact jz_if (fun _ => E hG) (fun c => absurd (Int32.le_iff_toInt_le.mpr (by rw [nI_toInt (by omega)]; omega)) c)
  | d + 1, G, hG, hd => by
    have st := jR_st hG
    have r := st_r3_0 st
    obtain ⟨n, hn, en⟩ := jk_len hG.1.1 js_t4
    refine jz_eq (fun _ => u19_0 (st_t3 st) (by rw [r]; decide) (by rw [r]; exact st_t4 st)) ?_
    rw [r, en]
    refine jz_if (fun _ => E hG) (fun c => ?_)
    have hp : (jm_I G 3 4).toInt < n := by
      have : ¬ (nI n).toInt ≤ (jm_I G 3 4).toInt := fun q => c (Int32.le_iff_toInt_le.mpr q)
      rw [nI_toInt (by omega)] at this
      omega
    refine jz_eq (fun _ => u19_14 (st_t3 st) (by rw [r]; decide) (by rw [r]; exact st_t4 st)) ?_
    rw [r]
    refine jz_call (p20 st) (fun v G1 e hv => ?_)
    obtain rfl := e
    obtain ⟨x, rfl⟩ := hv
    refine jz_eq (fun _ => u19_25) ?_
    refine jz_call (p21 rfl) (fun v G1 e hv => ?_)
    obtain rfl := e
    obtain ⟨x, rfl⟩ := hv
    refine jz_eq (fun _ => u19_28) (jz_if (fun _ => E hG) (fun _ => ?_))
    refine jz_eq (fun _ => u19_31 (st_t3 st)) ?_
    exact l19 ht E d (jR_pI hG (by decide) (by omega) (jv_free jno_3)) (by rw [jm_I_pI, if_pos ⟨rfl, rfl⟩, ti_succ (by omega)]; omega)
theorem l23 (ht : t = 7 ∨ t = 177) (E : ∀ {G : jm_H}, jR Z t H0 G → jz (jR Z t H0) jz_0 (fun Q => jm_w S 2 23 80 [.ref 3] [] G Q)) : ∀ (d : Nat) {G : jm_H}, jR Z t H0 G → 2000 < (jm_I G 3 4).toInt + d → jz (jR Z t H0) jz_0 (fun Q => jm_w S 2 23 5 [.ref 3] [] G Q)
  | 0, G, hG, hd => by
    have st := jR_st hG
    have r := st_r3_0 st
    obtain ⟨n, hn, en⟩ := jk_len hG.1.1 js_t4
    refine jz_eq (fun _ => u23_5 (st_t3 st) (by rw [r]; decide) (by rw [r]; exact st_t4 st)) ?_
    rw [r, en]
    exact jz_if (fun _ => E hG) (fun c => absurd (Int32.le_iff_toInt_le.mpr (by rw [nI_toInt (by omega)]; omega)) c)
  | d + 1, G, hG, hd => by
    have st := jR_st hG
    have r := st_r3_0 st
    obtain ⟨n, hn, en⟩ := jk_len hG.1.1 js_t4
    refine jz_eq (fun _ => u23_5 (st_t3 st) (by rw [r]; decide) (by rw [r]; exact st_t4 st)) ?_
    rw [r, en]
    refine jz_if (fun _ => E hG) (fun c => ?_)
    have hp : (jm_I G 3 4).toInt < n := by
      have : ¬ (nI n).toInt ≤ (jm_I G 3 4).toInt := fun q => c (Int32.le_iff_toInt_le.mpr q)
      rw [nI_toInt (by omega)] at this
      omega
    refine jz_eq (fun _ => u23_19 (st_t3 st) (by rw [r]; decide) (by rw [r]; exact st_t4 st)) ?_
    rw [r]
    refine jz_call (p20 st) (fun v G1 e hv => ?_)
    obtain rfl := e
    obtain ⟨x, rfl⟩ := hv
    refine jz_eq (fun _ => u23_30) ?_
    refine jz_call (p22 rfl) (fun v G1 e hv => ?_)
    obtain rfl := e
    obtain ⟨x, rfl⟩ := hv
    refine jz_eq (fun _ => u23_33) (jz_if (fun _ => E hG) (fun _ => ?_))
    refine jz_eq (fun _ => u23_36 (st_t3 st) (by rw [r]; decide) (by rw [r]; exact st_t4 st)) ?_
    rw [r]
    refine jz_call (p20 st) (fun v G1 e hv => ?_)
    obtain rfl := e
    obtain ⟨x, rfl⟩ := hv
    refine jz_eq (fun _ => u23_56 (st_t3 st) (st_t3 st)) ?_
    exact l23 ht E d (jR_pI (jR_pL hG (by decide)) (by decide) (by omega) (jv_free jno_3)) (by rw [jm_I_pI, if_pos ⟨rfl, rfl⟩, ti_succ (by omega)]; omega)
theorem l26 (ht : t = 7 ∨ t = 177) (E : ∀ {G : jm_H}, jR Z t H0 G → jz (jR Z t H0) jz_0 (fun Q => jm_w S 2 26 78 [.ref 3] [] G Q)) : ∀ (d : Nat) {G : jm_H}, jR Z t H0 G → 2000 < (jm_I G 3 4).toInt + d → jz (jR Z t H0) jz_0 (fun Q => jm_w S 2 26 5 [.ref 3] [] G Q)
  | 0, G, hG, hd => by
    have st := jR_st hG
    have r := st_r3_0 st
    obtain ⟨n, hn, en⟩ := jk_len hG.1.1 js_t4
    refine jz_eq (fun _ => u26_5 (st_t3 st) (by rw [r]; decide) (by rw [r]; exact st_t4 st)) ?_
    rw [r, en]
    exact jz_if (fun _ => E hG) (fun c => absurd (Int32.le_iff_toInt_le.mpr (by rw [nI_toInt (by omega)]; omega)) c)
  | d + 1, G, hG, hd => by
    have st := jR_st hG
    have r := st_r3_0 st
    obtain ⟨n, hn, en⟩ := jk_len hG.1.1 js_t4
    refine jz_eq (fun _ => u26_5 (st_t3 st) (by rw [r]; decide) (by rw [r]; exact st_t4 st)) ?_
    rw [r, en]
    refine jz_if (fun _ => E hG) (fun c => ?_)
    have hp : (jm_I G 3 4).toInt < n := by
      have : ¬ (nI n).toInt ≤ (jm_I G 3 4).toInt := fun q => c (Int32.le_iff_toInt_le.mpr q)
      rw [nI_toInt (by omega)] at this
      omega
    refine jz_eq (fun _ => u26_19 (st_t3 st) (by rw [r]; decide) (by rw [r]; exact st_t4 st)) ?_
    rw [r]
    refine jz_call (p20 st) (fun v G1 e hv => ?_)
    obtain rfl := e
    obtain ⟨x, rfl⟩ := hv
    refine jz_eq (fun _ => u26_30) ?_
    refine jz_call (p25 rfl) (fun v G1 e hv => ?_)
    obtain rfl := e
    obtain ⟨x, rfl⟩ := hv
    refine jz_eq (fun _ => u26_33) (jz_if (fun _ => E hG) (fun _ => ?_))
    refine jz_eq (fun _ => u26_36 (st_t3 st) (by rw [r]; decide) (by rw [r]; exact st_t4 st)) ?_
    rw [r]
    refine jz_call (p20 st) (fun v G1 e hv => ?_)
    obtain rfl := e
    obtain ⟨x, rfl⟩ := hv
    refine jz_eq (fun _ => u26_56 (st_t3 st) (st_t3 st)) ?_
    exact l26 ht E d (jR_pI (jR_pL hG (by decide)) (by decide) (by omega) (jv_free jno_3)) (by rw [jm_I_pI, if_pos ⟨rfl, rfl⟩, ti_succ (by omega)]; omega)
theorem z37 {x1 x2 : Int32} (ht : t = 7 ∨ t = 177) {G : jm_H} (hG : jR Z t H0 G) : jz (jR Z t H0) jz_0 (fun Q => jm_c S 37 [.ref t, .int x1, .int x2] G Q) := by
  have st := jR_st hG
  obtain ⟨t1, t2, l2, t3, l3, r0, r1⟩ := tx_at ht st
  refine jz_eq (fun _ => en37.trans (u37_0 t1 (by rw [r0]; omega) (by rw [r0]; omega) (by rw [r0, t2]; decide))) ?_
  rw [r0, l2]
  refine jz_if (fun _ => jz_eq (fun _ => u37_54) (jz_end hG rfl)) (fun c => ?_)
  refine jz_eq (fun _ => u37_12 t1 (by rw [r1]; omega) (by rw [r1]; omega) (by rw [r1, t3]; decide)) ?_
  rw [r1, l3]
  refine jz_if (fun _ => jz_eq (fun _ => u37_54) (jz_end hG rfl)) (fun _ => ?_)
  have hb := tx_len ht hG
  have hc := ti_nle (by decide) c
  have hix : ¬ (jm_I G t 2 < 0 ∨ 400 ≤ (jm_I G t 2).toNatClampNeg) := idx_of (by decide) hb.1 hc
  have e2 : ∀ v k, jm_I (jm_pI G (t + 1) k v) t 2 = jm_I G t 2 := fun v k => by rw [jm_I_pI, if_neg (by omega)]
  refine jz_eq (fun _ => u37_24 t1 (by rw [r0]; omega) (by rw [r0, l2]; exact hix) (by rw [r0]; exact t2) (by rw [r1]; omega) (by rw [r0, r1, e2, l3]; exact hix) (by rw [r1]; exact t3)) ?_
  rw [r0, r1, e2]
  have e3 : ∀ v k, jm_I (jm_pI (jm_pI G (t + 1) (jm_I G t 2).toNatClampNeg x1) (t + 2) k v) t 2 = jm_I G t 2 := fun v k => by rw [jm_I_pI, if_neg (by omega), e2]
  rw [e3]
  refine jz_eq (fun _ => u37_54) (jz_end (jR_pI (jR_pI (jR_pI hG (by omega) (by omega) (jv_free (jno_t1 ht))) (by omega) (by omega) (jv_free (jno_t2 ht))) (by omega) (by omega) (jv_txt ht (fun _ => ?_) (fun h => absurd h (by decide)))) rfl)
  rw [ti_succ (by omega)]
  omega
theorem z29 {x1 : Int32} (ht : t = 7 ∨ t = 177) {G : jm_H} (hG : jR Z t H0 G) : jz (jR Z t H0) jz_0 (fun Q => jm_c S 29 [.ref 3, .int x1] G Q) := by
  have b20 : ∀ {x1 : Int32} {G : jm_H}, jR Z t H0 G → jz (jR Z t H0) jz_0 (fun Q => jm_w S 1 29 20 [.ref 3, .int x1] [] G Q) := by
    intro x1 G hG
    have st := jR_st hG
    have tx := tx_at ht st
    refine jz_eq (fun _ => u29_20 (st_t3 st)) ?_
    exact jz_end (jR_pI (hG) (by omega) (by omega) (jv_free jno_3)) rfl
  have b0 : ∀ {x1 : Int32} {G : jm_H}, jR Z t H0 G → jz (jR Z t H0) jz_0 (fun Q => jm_w S 1 29 0 [.ref 3, .int x1] [] G Q) := by
    intro x1 G hG
    have st := jR_st hG
    have tx := tx_at ht st
    refine jz_eq (fun _ => u29_0 (st_t3 st)) ?_
    refine jz_if (fun c0 => ?_) (fun c0 => ?_)
    · exact b20 (hG)
    · have st := jR_st hG
      have tx := tx_at ht st
      refine jz_eq (fun _ => u29_7 (st_t3 st)) ?_
      exact b20 (jR_pI (jR_pI (hG) (by omega) (by omega) (jv_free jno_3)) (by omega) (by omega) (jv_free jno_3))
  refine jz_eq (fun _ => en29) ?_
  exact b0 (hG)
theorem z31 {x1 x2 : Int32} (ht : t = 7 ∨ t = 177) {G : jm_H} (hG : jR Z t H0 G) : jz (jR Z t H0) jz_0 (fun Q => jm_c S 31 [.ref 3, .int x1, .int x2] G Q) := by
  have b17 : ∀ {x1 : Int32} {x2 : Int32} {G : jm_H}, jR Z t H0 G → jz (jR Z t H0) jz_0 (fun Q => jm_w S 1 31 17 [.ref 3, .int x1, .int x2] [] G Q) := by
    intro x1 x2 G hG
    have st := jR_st hG
    have tx := tx_at ht st
    refine jz_eq (fun _ => u31_17) ?_
    exact jz_end (hG) rfl
  have b0 : ∀ {x1 : Int32} {x2 : Int32} {G : jm_H}, jR Z t H0 G → jz (jR Z t H0) jz_0 (fun Q => jm_w S 1 31 0 [.ref 3, .int x1, .int x2] [] G Q) := by
    intro x1 x2 G hG
    have st := jR_st hG
    have tx := tx_at ht st
    refine jz_eq (fun _ => u31_0 (st_t3 st)) ?_
    refine jz_if (fun c0 => ?_) (fun c0 => ?_)
    · exact b17 (hG)
    · have st := jR_st hG
      have tx := tx_at ht st
      refine jz_eq (fun _ => u31_7 (st_t3 st)) ?_
      exact b17 (jR_pI (jR_pI (hG) (by omega) (by omega) (jv_free jno_3)) (by omega) (by omega) (jv_free jno_3))
  refine jz_eq (fun _ => en31) ?_
  exact b0 (hG)
theorem z23  (ht : t = 7 ∨ t = 177) {G : jm_H} (hG : jR Z t H0 G) : jz (jR Z t H0) jz_0 (fun Q => jm_c S 23 [.ref 3] G Q) := by
  have b106 : ∀ {p1 : Int32} {G : jm_H}, jR Z t H0 G → jz (jR Z t H0) jz_0 (fun Q => jm_w S 2 23 106 [.ref 3] [.int p1, .ref 3] G Q) := by
    intro p1 G hG
    have st := jR_st hG
    have tx := tx_at ht st
    refine jz_eq (fun _ => u23_106 (st_t3 st)) ?_
    exact jz_end (jR_pI (hG) (by omega) (by omega) (jv_free jno_3)) rfl
  have b80 : ∀  {G : jm_H}, jR Z t H0 G → jz (jR Z t H0) jz_0 (fun Q => jm_w S 2 23 80 [.ref 3] [] G Q) := by
    intro G hG
    have st := jR_st hG
    have tx := tx_at ht st
    refine jz_eq (fun _ => u23_80 (st_t3 st)) ?_
    refine jz_if (fun c80 => ?_) (fun c80 => ?_)
    · have st := jR_st hG
      have tx := tx_at ht st
      refine jz_eq (fun _ => u23_99 (st_t3 st)) ?_
      refine jz_call (jz_pu (hG) (p24 rfl)) (fun v G hG hv => ?_)
      obtain ⟨xv, rfl⟩ := hv
      exact b106 (hG)
    · have st := jR_st hG
      have tx := tx_at ht st
      refine jz_eq (fun _ => u23_95) ?_
      exact b106 (hG)
  have loop5 : ∀ {G : jm_H}, jR Z t H0 G → jz (jR Z t H0) jz_0 (fun Q => jm_w S 2 23 5 [.ref 3] [] G Q) := fun {G} hG => l23 ht (fun hG => b80 hG) (2001 - (jm_I G 3 4).toInt).toNat hG (by omega)
  have b0 : ∀  {G : jm_H}, jR Z t H0 G → jz (jR Z t H0) jz_0 (fun Q => jm_w S 2 23 0 [.ref 3] [] G Q) := by
    intro G hG
    have st := jR_st hG
    have tx := tx_at ht st
    refine jz_eq (fun _ => u23_0 (st_t3 st)) ?_
    exact loop5 (jR_pL (hG) (by omega))
  refine jz_eq (fun _ => en23) ?_
  exact b0 (hG)
theorem z26  (ht : t = 7 ∨ t = 177) {G : jm_H} (hG : jR Z t H0 G) : jz (jR Z t H0) jz_0 (fun Q => jm_c S 26 [.ref 3] G Q) := by
  have b97 : ∀ {p1 : Int32} {G : jm_H}, jR Z t H0 G → jz (jR Z t H0) jz_0 (fun Q => jm_w S 2 26 97 [.ref 3] [.int p1, .ref 3] G Q) := by
    intro p1 G hG
    have st := jR_st hG
    have tx := tx_at ht st
    refine jz_eq (fun _ => u26_97 (st_t3 st)) ?_
    exact jz_end (jR_pI (hG) (by omega) (by omega) (jv_free jno_3)) rfl
  have b78 : ∀  {G : jm_H}, jR Z t H0 G → jz (jR Z t H0) jz_0 (fun Q => jm_w S 2 26 78 [.ref 3] [] G Q) := by
    intro G hG
    have st := jR_st hG
    have tx := tx_at ht st
    refine jz_eq (fun _ => u26_78 (st_t3 st)) ?_
    refine jz_if (fun c78 => ?_) (fun c78 => ?_)
    · have st := jR_st hG
      have tx := tx_at ht st
      refine jz_eq (fun _ => u26_96) ?_
      exact b97 (hG)
    · have st := jR_st hG
      have tx := tx_at ht st
      refine jz_eq (fun _ => u26_92) ?_
      exact b97 (hG)
  have loop5 : ∀ {G : jm_H}, jR Z t H0 G → jz (jR Z t H0) jz_0 (fun Q => jm_w S 2 26 5 [.ref 3] [] G Q) := fun {G} hG => l26 ht (fun hG => b78 hG) (2001 - (jm_I G 3 4).toInt).toNat hG (by omega)
  have b0 : ∀  {G : jm_H}, jR Z t H0 G → jz (jR Z t H0) jz_0 (fun Q => jm_w S 2 26 0 [.ref 3] [] G Q) := by
    intro G hG
    have st := jR_st hG
    have tx := tx_at ht st
    refine jz_eq (fun _ => u26_0 (st_t3 st)) ?_
    exact loop5 (jR_pL (hG) (by omega))
  refine jz_eq (fun _ => en26) ?_
  exact b0 (hG)
theorem z19  (ht : t = 7 ∨ t = 177) {G : jm_H} (hG : jR Z t H0 G) : jz (jR Z t H0) jz_0 (fun Q => jm_c S 19 [.ref 3] G Q) := by
  have b144 : ∀ {x1 : Int32} {G : jm_H}, jR Z t H0 G → jz (jR Z t H0) jz_0 (fun Q => jm_w S 3 19 144 [.ref 3, .int x1] [] G Q) := by
    intro x1 G hG
    have st := jR_st hG
    have tx := tx_at ht st
    refine jz_eq (fun _ => u19_144 (st_t3 st)) ?_
    exact jz_end (jR_pI (hG) (by omega) (by omega) (jv_free jno_3)) rfl
  have b44 : ∀  {G : jm_H}, jR Z t H0 G → jz (jR Z t H0) jz_0 (fun Q => jm_w S 3 19 44 [.ref 3, .null] [] G Q) := by
    intro G hG
    have st := jR_st hG
    have tx := tx_at ht st
    have e3_0 : jm_R G 3 0 = 4 := st_r3_0 st
    refine jz_eq (fun _ => u19_44 (st_t3 st) (by simp only [e3_0]; decide) (by simp only [e3_0]; exact st_t4 st)) ?_
    simp only [e3_0]
    refine jz_call (jz_pu (jR_pI (hG) (by omega) (by omega) (jv_free jno_3)) (p20 (jR_st (jR_pI (hG) (by omega) (by omega) (jv_free jno_3))))) (fun v G hG hv => ?_)
    obtain ⟨xv, rfl⟩ := hv
    have st := jR_st hG
    have tx := tx_at ht st
    have e3_0 : jm_R G 3 0 = 4 := st_r3_0 st
    refine jz_eq (fun _ => u19_63 (st_t3 st) (by simp only [e3_0]; decide) (by simp only [e3_0]; exact st_t4 st)) ?_
    simp only [e3_0]
    refine jz_if (fun c63 => ?_) (fun c63 => ?_)
    · have st := jR_st hG
      have tx := tx_at ht st
      refine jz_eq (fun _ => u19_86) ?_
      refine jz_call (jz_pu (hG) (p22 rfl)) (fun v G hG hv => ?_)
      obtain ⟨xv, rfl⟩ := hv
      have st := jR_st hG
      have tx := tx_at ht st
      refine jz_eq (fun _ => u19_90) ?_
      refine jz_if (fun c90 => ?_) (fun c90 => ?_)
      · have st := jR_st hG
        have tx := tx_at ht st
        refine jz_eq (fun _ => u19_100) ?_
        refine jz_call (jz_pu (hG) (p25 rfl)) (fun v G hG hv => ?_)
        obtain ⟨xv, rfl⟩ := hv
        have st := jR_st hG
        have tx := tx_at ht st
        refine jz_eq (fun _ => u19_104) ?_
        refine jz_if (fun c104 => ?_) (fun c104 => ?_)
        · have st := jR_st hG
          have tx := tx_at ht st
          refine jz_eq (fun _ => u19_114) ?_
          refine jz_call (jz_pu (hG) (p27 rfl)) (fun v G hG hv => ?_)
          obtain ⟨xv, rfl⟩ := hv
          have st := jR_st hG
          have tx := tx_at ht st
          refine jz_eq (fun _ => u19_118) ?_
          refine jz_if (fun c118 => ?_) (fun c118 => ?_)
          · have st := jR_st hG
            have tx := tx_at ht st
            refine jz_eq (fun _ => u19_139 (st_t3 st)) ?_
            exact b144 (jR_pI (hG) (by omega) (by omega) (jv_free jno_3))
          · have st := jR_st hG
            have tx := tx_at ht st
            refine jz_eq (fun _ => u19_121 (st_t3 st)) ?_
            exact b144 (jR_pI (jR_pI (hG) (by omega) (by omega) (jv_free jno_3)) (by omega) (by omega) (jv_free jno_3))
        · have st := jR_st hG
          have tx := tx_at ht st
          refine jz_eq (fun _ => u19_107 (st_t3 st)) ?_
          refine jz_call (z26 ht (hG)) (fun v G hG hv => ?_)
          obtain rfl := hv
          have st := jR_st hG
          have tx := tx_at ht st
          refine jz_eq (fun _ => u19_111) ?_
          exact b144 (hG)
      · have st := jR_st hG
        have tx := tx_at ht st
        refine jz_eq (fun _ => u19_93 (st_t3 st)) ?_
        refine jz_call (z23 ht (hG)) (fun v G hG hv => ?_)
        obtain rfl := hv
        have st := jR_st hG
        have tx := tx_at ht st
        refine jz_eq (fun _ => u19_97) ?_
        exact b144 (hG)
    · have st := jR_st hG
      have tx := tx_at ht st
      refine jz_eq (fun _ => u19_78 (st_t3 st)) ?_
      exact b144 (jR_pI (hG) (by omega) (by omega) (jv_free jno_3))
  have loop0 : ∀ {G : jm_H}, jR Z t H0 G → jz (jR Z t H0) jz_0 (fun Q => jm_w S 3 19 0 [.ref 3, .null] [] G Q) := fun {G} hG => l19 ht (fun hG => b44 hG) (2001 - (jm_I G 3 4).toInt).toNat hG (by omega)
  refine jz_eq (fun _ => en19) ?_
  exact loop0 (hG)
theorem z18  (ht : t = 7 ∨ t = 177) {G : jm_H} (hG : jR Z t H0 G) : jz (jR Z t H0) jz_0 (fun Q => jm_c S 18 [.ref 3] G Q) := by
  have b0 : ∀  {G : jm_H}, jR Z t H0 G → jz (jR Z t H0) jz_0 (fun Q => jm_w S 4 18 0 [.ref 3] [] G Q) := by
    intro G hG
    have st := jR_st hG
    have tx := tx_at ht st
    have e3_2 : jm_R G 3 2 = t := hG.2.1
    refine jz_eq (fun _ => u18_0 (st_t3 st) (by simp only [e3_2]; omega) (by simp only [e3_2]; exact tx.1)) ?_
    simp only [e3_2]
    refine jz_call (z19 ht (jR_pI (jR_pI (jR_pI (jR_pI (jR_pI (jR_pI (jR_pI (jR_pI (jR_pI (jR_pI (hG) (by omega) (by omega) (jv_txt ht (fun _ => by decide) (fun h => absurd h (by decide)))) (by omega) (by omega) (jv_txt ht (fun h => absurd h (by decide)) (fun _ => by decide))) (by omega) (by omega) (jv_free jno_3)) (by omega) (by omega) (jv_free jno_3)) (by omega) (by omega) (jv_free jno_3)) (by omega) (by omega) (jv_free jno_3)) (by omega) (by omega) (jv_free jno_3)) (by omega) (by omega) (jv_free jno_3)) (by omega) (by omega) (jv_free jno_3)) (by omega) (by omega) (jv_free jno_3))) (fun v G hG hv => ?_)
    obtain rfl := hv
    have st := jR_st hG
    have tx := tx_at ht st
    refine jz_eq (fun _ => u18_60) ?_
    exact jz_end (hG) rfl
  refine jz_eq (fun _ => en18) ?_
  exact b0 (hG)
theorem z28 {x1 : Int32} (ht : t = 7 ∨ t = 177) {G : jm_H} (hG : jR Z t H0 G) : jz (jR Z t H0) jz_I (fun Q => jm_c S 28 [.ref 3, .int x1] G Q) := by
  have b110 : ∀ {x1 : Int32} {G : jm_H}, jR Z t H0 G → jz (jR Z t H0) jz_I (fun Q => jm_w S 4 28 110 [.ref 3, .int x1] [] G Q) := by
    intro x1 G hG
    have st := jR_st hG
    have tx := tx_at ht st
    refine jz_eq (fun _ => u28_110 (st_t3 st)) ?_
    refine jz_call (z29 ht (hG)) (fun v G hG hv => ?_)
    obtain rfl := hv
    have st := jR_st hG
    have tx := tx_at ht st
    refine jz_eq (fun _ => u28_115) ?_
    exact jz_end (hG) ⟨_, rfl⟩
  have b92 : ∀ {x1 : Int32} {G : jm_H}, jR Z t H0 G → jz (jR Z t H0) jz_I (fun Q => jm_w S 4 28 92 [.ref 3, .int x1] [] G Q) := by
    intro x1 G hG
    have st := jR_st hG
    have tx := tx_at ht st
    refine jz_eq (fun _ => u28_92 (st_t3 st)) ?_
    refine jz_if (fun c92 => ?_) (fun c92 => ?_)
    · exact b110 (hG)
    · have st := jR_st hG
      have tx := tx_at ht st
      refine jz_eq (fun _ => u28_101 (st_t3 st)) ?_
      refine jz_if (fun c101 => ?_) (fun c101 => ?_)
      · have st := jR_st hG
        have tx := tx_at ht st
        refine jz_eq (fun _ => u28_117 (st_t3 st)) ?_
        refine jz_call (z19 ht (hG)) (fun v G hG hv => ?_)
        obtain rfl := hv
        have st := jR_st hG
        have tx := tx_at ht st
        refine jz_eq (fun _ => u28_121) ?_
        exact jz_end (hG) ⟨_, rfl⟩
      · exact b110 (hG)
  have b78 : ∀ {x1 : Int32} {p1 : Int32} {p2 : Int32} {G : jm_H}, jR Z t H0 G → jz (jR Z t H0) jz_I (fun Q => jm_w S 4 28 78 [.ref 3, .int x1] [.int p2, .int p1, .ref 3] G Q) := by
    intro x1 p1 p2 G hG
    have st := jR_st hG
    have tx := tx_at ht st
    refine jz_eq (fun _ => u28_78 (st_t3 st) (st_t3 st)) ?_
    refine jz_if (fun c78 => ?_) (fun c78 => ?_)
    · exact b110 (jR_pI (hG) (by omega) (by omega) (jv_free jno_3))
    · exact b92 (jR_pI (hG) (by omega) (by omega) (jv_free jno_3))
  have b60 : ∀ {x1 : Int32} {p1 : Int32} {G : jm_H}, jR Z t H0 G → jz (jR Z t H0) jz_I (fun Q => jm_w S 4 28 60 [.ref 3, .int x1] [.int p1, .ref 3] G Q) := by
    intro x1 p1 G hG
    have st := jR_st hG
    have tx := tx_at ht st
    refine jz_eq (fun _ => u28_60) ?_
    exact b78 (hG)
  have b64 : ∀ {x1 : Int32} {p1 : Int32} {G : jm_H}, jR Z t H0 G → jz (jR Z t H0) jz_I (fun Q => jm_w S 4 28 64 [.ref 3, .int x1] [.int p1, .ref 3] G Q) := by
    intro x1 p1 G hG
    have st := jR_st hG
    have tx := tx_at ht st
    refine jz_eq (fun _ => u28_64 (st_t3 st)) ?_
    refine jz_if (fun c64 => ?_) (fun c64 => ?_)
    · have st := jR_st hG
      have tx := tx_at ht st
      refine jz_eq (fun _ => u28_77) ?_
      exact b78 (hG)
    · have st := jR_st hG
      have tx := tx_at ht st
      refine jz_eq (fun _ => u28_73) ?_
      exact b78 (hG)
  have b42 : ∀ {x1 : Int32} {p1 : Int32} {p2 : Int32} {G : jm_H}, jR Z t H0 G → jz (jR Z t H0) jz_I (fun Q => jm_w S 4 28 42 [.ref 3, .int x1] [.int p2, .int p1, .ref 3] G Q) := by
    intro x1 p1 p2 G hG
    have st := jR_st hG
    have tx := tx_at ht st
    refine jz_eq (fun _ => u28_42 (st_t3 st) (st_t3 st)) ?_
    refine jz_if (fun c42 => ?_) (fun c42 => ?_)
    · exact b64 (jR_pI (hG) (by omega) (by omega) (jv_free jno_3))
    · exact b60 (jR_pI (hG) (by omega) (by omega) (jv_free jno_3))
  have b0 : ∀ {x1 : Int32} {G : jm_H}, jR Z t H0 G → jz (jR Z t H0) jz_I (fun Q => jm_w S 4 28 0 [.ref 3, .int x1] [] G Q) := by
    intro x1 G hG
    have st := jR_st hG
    have tx := tx_at ht st
    refine jz_eq (fun _ => u28_0 (st_t3 st)) ?_
    refine jz_if (fun c0 => ?_) (fun c0 => ?_)
    · have st := jR_st hG
      have tx := tx_at ht st
      refine jz_eq (fun _ => u28_9 (st_t3 st)) ?_
      refine jz_if (fun c9 => ?_) (fun c9 => ?_)
      · have st := jR_st hG
        have tx := tx_at ht st
        refine jz_eq (fun _ => u28_24 (st_t3 st)) ?_
        refine jz_if (fun c24 => ?_) (fun c24 => ?_)
        · have st := jR_st hG
          have tx := tx_at ht st
          refine jz_eq (fun _ => u28_41) ?_
          exact b42 (hG)
        · have st := jR_st hG
          have tx := tx_at ht st
          refine jz_eq (fun _ => u28_37) ?_
          exact b42 (hG)
      · have st := jR_st hG
        have tx := tx_at ht st
        refine jz_eq (fun _ => u28_17 (st_t3 st)) ?_
        refine jz_call (z29 ht (hG)) (fun v G hG hv => ?_)
        obtain rfl := hv
        have st := jR_st hG
        have tx := tx_at ht st
        refine jz_eq (fun _ => u28_22) ?_
        exact jz_end (hG) ⟨_, rfl⟩
    · have st := jR_st hG
      have tx := tx_at ht st
      refine jz_eq (fun _ => u28_7) ?_
      exact jz_end (hG) ⟨_, rfl⟩
  refine jz_eq (fun _ => en28) ?_
  exact b0 (hG)
theorem z30 {x1 x2 : Int32} (hx : x1.toInt ≤ x2.toInt) (ht : t = 7 ∨ t = 177) {G : jm_H} (hG : jR Z t H0 G) : jz (jR Z t H0) (jz_in x1 x2) (fun Q => jm_c S 30 [.ref 3, .int x1, .int x2] G Q) := by
  have b35 : ∀ {x5 : Int32} {y3 : Int64} {G : jm_H}, jR Z t H0 G → jz (jR Z t H0) (jz_in x1 x2) (fun Q => jm_w S 5 30 35 [.ref 3, .int x1, .int x2, .long y3, .null, .int x5] [] G Q) := by
    intro x5 y3 G hG
    have st := jR_st hG
    have tx := tx_at ht st
    refine jz_eq (fun _ => u30_35 (st_t3 st)) ?_
    refine jz_call (z31 ht (hG)) (fun v G hG hv => ?_)
    obtain rfl := hv
    have st := jR_st hG
    have tx := tx_at ht st
    refine jz_eq (fun _ => u30_42) ?_
    exact jz_end (hG) ⟨x1, rfl, by omega, hx⟩
  have b0 : ∀  {G : jm_H}, jR Z t H0 G → jz (jR Z t H0) (jz_in x1 x2) (fun Q => jm_w S 5 30 0 [.ref 3, .int x1, .int x2, .null, .null, .null] [] G Q) := by
    intro G hG
    have st := jR_st hG
    have tx := tx_at ht st
    refine jz_eq (fun _ => u30_0 (st_t3 st)) ?_
    refine jz_call (z28 ht (hG)) (fun v G hG hv => ?_)
    obtain ⟨xv, rfl⟩ := hv
    have st := jR_st hG
    have tx := tx_at ht st
    refine jz_eq (fun _ => u30_16) ?_
    refine jz_if (fun c16 => ?_) (fun c16 => ?_)
    · have st := jR_st hG
      have tx := tx_at ht st
      refine jz_eq (fun _ => u30_21) ?_
      refine jz_if (fun c21 => ?_) (fun c21 => ?_)
      · exact b35 (hG)
      · have st := jR_st hG
        have tx := tx_at ht st
        refine jz_eq (fun _ => u30_28) ?_
        refine jz_if (fun c28 => ?_) (fun c28 => ?_)
        · have st := jR_st hG
          have tx := tx_at ht st
          refine jz_eq (fun _ => u30_44) ?_
          exact jz_end (hG) ⟨_, rfl, cmp_in c21 c28⟩
        · exact b35 (hG)
    · have st := jR_st hG
      have tx := tx_at ht st
      refine jz_eq (fun _ => u30_19) ?_
      exact jz_end (hG) ⟨x1, rfl, by omega, hx⟩
  refine jz_eq (fun _ => en30) ?_
  exact b0 (hG)
theorem z33 {y1 : Int64} (ht : t = 7 ∨ t = 177) {G : jm_H} (hG : jR Z t H0 G) : jz (jR Z t H0) jz_I (fun Q => jm_c S 33 [.ref 3, .long y1] G Q) := by
  have b41 : ∀ {y1 : Int64} {x3 : Int32} {G : jm_H}, jR Z t H0 G → jz (jR Z t H0) jz_I (fun Q => jm_w S 1 33 41 [.ref 3, .long y1, .null, .int x3] [] G Q) := by
    intro y1 x3 G hG
    have st := jR_st hG
    have tx := tx_at ht st
    refine jz_eq (fun _ => u33_41) ?_
    exact jz_end (hG) ⟨_, rfl⟩
  have loop2 : ∀ (d : Nat) (i : Nat), ∀ {y1 : Int64} {G : jm_H}, i + d = 8 → jR Z t H0 G → jz (jR Z t H0) jz_I (fun Q => jm_w S 1 33 2 [.ref 3, .long y1, .null, .int (nI i)] [] G Q) := by
    intro d
    induction d with
    | zero =>
      intro i y1 G hm hG
      have st := jR_st hG
      have tx := tx_at ht st
      have e3_2 : jm_R G 3 2 = t := hG.2.1
      have e3_1 : jm_R G 3 1 = 6 := st_r3_1 st
      refine jz_eq (fun _ => u33_2 (st_t3 st) (by simp only [e3_2]; omega) (by simp only [e3_2]; exact tx.1)) (jz_if (fun _ => jz_eq (fun _ => u33_41) (jz_end hG ⟨_, rfl⟩)) (fun _ => ?_))
      refine jz_eq (fun _ => u33_13 (st_t3 st) (by simp only [e3_1]; decide) (by simp only [e3_1]; decide) (by simp only [e3_1, st_t6 st]; decide)) ?_
      simp only [e3_1, st_l6 st]
      exact jz_if (fun _ => jz_eq (fun _ => u33_41) (jz_end hG ⟨_, rfl⟩)) (fun c => absurd (show Int32.ofNat 8 ≤ nI i from (nI_leI (a := 8) (by decide) (by omega)).mpr (by omega)) c)
    | succ d ih =>
      intro i y1 G hm hG
      have st := jR_st hG
      have tx := tx_at ht st
      have e3_2 : jm_R G 3 2 = t := hG.2.1
      refine jz_eq (fun _ => u33_2 (st_t3 st) (by simp only [e3_2]; omega) (by simp only [e3_2]; exact tx.1)) ?_
      simp only [e3_2]
      refine jz_if (fun c2 => ?_) (fun c2 => ?_)
      · exact b41 (hG)
      · have st := jR_st hG
        have tx := tx_at ht st
        have e3_1 : jm_R G 3 1 = 6 := st_r3_1 st
        refine jz_eq (fun _ => u33_13 (st_t3 st) (by simp only [e3_1]; decide) (by simp only [e3_1]; decide) (by simp only [e3_1, st_t6 st]; decide)) ?_
        simp only [e3_1]
        refine jz_if (fun c13 => ?_) (fun c13 => ?_)
        · exact b41 (hG)
        · have st := jR_st hG
          have tx := tx_at ht st
          have e3_1 : jm_R G 3 1 = 6 := st_r3_1 st
          refine jz_eq (fun _ => u33_22 (st_t3 st) (by simp only [e3_1]; decide) (by simp only [e3_1, st_l6 st]; exact nI_inK (by omega) (by decide)) (by simp only [e3_1]; exact st_t6 st)) ?_
          simp only [e3_1]
          refine jz_if (fun c22 => ?_) (fun c22 => ?_)
          · have st := jR_st hG
            have tx := tx_at ht st
            refine jz_eq (fun _ => u33_35) ?_
            rw [nI_succK]
            exact ih (i + 1) (by omega) (hG)
          · have st := jR_st hG
            have tx := tx_at ht st
            refine jz_eq (fun _ => u33_33) ?_
            exact jz_end (hG) ⟨_, rfl⟩
  have b0 : ∀ {y1 : Int64} {G : jm_H}, jR Z t H0 G → jz (jR Z t H0) jz_I (fun Q => jm_w S 1 33 0 [.ref 3, .long y1, .null, .null] [] G Q) := by
    intro y1 G hG
    have st := jR_st hG
    have tx := tx_at ht st
    refine jz_eq (fun _ => u33_0) ?_
    exact loop2 8 0 (by omega) (hG)
  refine jz_eq (fun _ => en33) ?_
  exact b0 (hG)
theorem z38  (ht : t = 7 ∨ t = 177) {G : jm_H} (hG : jR Z t H0 G) : jz (jR Z t H0) jz_0 (fun Q => jm_c S 38 [.ref 3] G Q) := by
  have b23 : ∀ {x1 : Int32} {G : jm_H}, jR Z t H0 G → jz (jR Z t H0) jz_0 (fun Q => jm_w S 5 38 23 [.ref 3, .int x1] [] G Q) := by
    intro x1 G hG
    have st := jR_st hG
    have tx := tx_at ht st
    have e3_2 : jm_R G 3 2 = t := hG.2.1
    refine jz_eq (fun _ => u38_23 (st_t3 st) (by simp only [e3_2]; omega) (by simp only [e3_2]; exact tx.1)) ?_
    simp only [e3_2]
    refine jz_call (z37 ht (hG)) (fun v G hG hv => ?_)
    obtain rfl := hv
    have st := jR_st hG
    have tx := tx_at ht st
    refine jz_eq (fun _ => u38_32 (st_t3 st)) ?_
    refine jz_call (z28 ht (hG)) (fun v G hG hv => ?_)
    obtain ⟨xv, rfl⟩ := hv
    have st := jR_st hG
    have tx := tx_at ht st
    refine jz_eq (fun _ => u38_37) ?_
    exact jz_end (hG) rfl
  have b0 : ∀  {G : jm_H}, jR Z t H0 G → jz (jR Z t H0) jz_0 (fun Q => jm_w S 5 38 0 [.ref 3, .null] [] G Q) := by
    intro G hG
    have st := jR_st hG
    have tx := tx_at ht st
    refine jz_eq (fun _ => u38_0 (st_t3 st)) ?_
    refine jz_call (z33 ht (hG)) (fun v G hG hv => ?_)
    obtain ⟨xv, rfl⟩ := hv
    have st := jR_st hG
    have tx := tx_at ht st
    refine jz_eq (fun _ => u38_8) ?_
    refine jz_if (fun c8 => ?_) (fun c8 => ?_)
    · exact b23 (hG)
    · have st := jR_st hG
      have tx := tx_at ht st
      refine jz_eq (fun _ => u38_14 (st_t3 st)) ?_
      refine jz_call (z31 ht (hG)) (fun v G hG hv => ?_)
      obtain rfl := hv
      exact b23 (hG)
  refine jz_eq (fun _ => en38) ?_
  exact b0 (hG)
theorem z39 (ht : t = 7 ∨ t = 177) {k : Nat} (hk : k ≤ 8) (E : ∀ {G : jm_H}, jR Z t H0 G → jz (jR Z t H0) jz_0 (fun Q => jm_c S 34 [.ref 3, .int (nI (k + 1))] G Q)) {G : jm_H} (hG : jR Z t H0 G) : jz (jR Z t H0) jz_0 (fun Q => jm_c S 39 [.ref 3, .int (nI k)] G Q) := by
  have b23 : ∀  {G : jm_H}, jR Z t H0 G → jz (jR Z t H0) jz_0 (fun Q => jm_w S (jm_rk 39 [.ref 3, .int (nI k)]) 39 23 [.ref 3, .int (nI k)] [] G Q) := by
    intro G hG
    have st := jR_st hG
    have tx := tx_at ht st
    refine jz_eq (fun _ => u39_23) ?_
    exact jz_end (hG) rfl
  have b0 : ∀  {G : jm_H}, jR Z t H0 G → jz (jR Z t H0) jz_0 (fun Q => jm_w S (jm_rk 39 [.ref 3, .int (nI k)]) 39 0 [.ref 3, .int (nI k)] [] G Q) := by
    intro G hG
    have st := jR_st hG
    have tx := tx_at ht st
    refine jz_eq (fun _ => u39_0 (show 4 < _ by rw [rk39 (by omega)]; omega) (st_t3 st)) ?_
    refine jz_call (z28 ht (hG)) (fun v G hG hv => ?_)
    obtain ⟨xv, rfl⟩ := hv
    have st := jR_st hG
    have tx := tx_at ht st
    refine jz_eq (fun _ => u39_6) ?_
    refine jz_if (fun c6 => ?_) (fun c6 => ?_)
    · exact b23 (hG)
    · have st := jR_st hG
      have tx := tx_at ht st
      refine jz_eq (fun _ => u39_9 (by rw [nI_succK, rk34 (by omega), rk39 (by omega)]; omega) (st_t3 st)) ?_
      refine jz_call (by rw [nI_succK]; exact E (hG)) (fun v G hG hv => ?_)
      obtain rfl := hv
      have st := jR_st hG
      have tx := tx_at ht st
      refine jz_eq (fun _ => u39_16 (show 4 < _ by rw [rk39 (by omega)]; omega) (st_t3 st)) ?_
      refine jz_call (z28 ht (hG)) (fun v G hG hv => ?_)
      obtain ⟨xv, rfl⟩ := hv
      have st := jR_st hG
      have tx := tx_at ht st
      refine jz_eq (fun _ => u39_22) ?_
      exact b23 (hG)
  refine jz_eq (fun _ => en39) ?_
  exact b0 (hG)
theorem z40 (ht : t = 7 ∨ t = 177) {k : Nat} (hk : k ≤ 8) (E : ∀ {G : jm_H}, jR Z t H0 G → jz (jR Z t H0) jz_0 (fun Q => jm_c S 34 [.ref 3, .int (nI (k + 1))] G Q)) {G : jm_H} (hG : jR Z t H0 G) : jz (jR Z t H0) jz_0 (fun Q => jm_c S 40 [.ref 3, .int (nI k)] G Q) := by
  have b70 : ∀ {x2 : Int32} {G : jm_H}, jR Z t H0 G → jz (jR Z t H0) jz_0 (fun Q => jm_w S (jm_rk 40 [.ref 3, .int (nI k)]) 40 70 [.ref 3, .int (nI k), .int x2] [] G Q) := by
    intro x2 G hG
    have st := jR_st hG
    have tx := tx_at ht st
    refine jz_eq (fun _ => u40_70 (show 4 < _ by rw [rk40 (by omega)]; omega) (st_t3 st)) ?_
    refine jz_call (z28 ht (hG)) (fun v G hG hv => ?_)
    obtain ⟨xv, rfl⟩ := hv
    have st := jR_st hG
    have tx := tx_at ht st
    have e3_2 : jm_R G 3 2 = t := hG.2.1
    refine jz_eq (fun _ => u40_76 (st_t3 st) (by simp only [e3_2]; omega) (show 1 < _ by rw [rk40 (by omega)]; omega) (by simp only [e3_2]; exact tx.1)) ?_
    simp only [e3_2]
    refine jz_call (z37 ht (hG)) (fun v G hG hv => ?_)
    obtain rfl := hv
    have st := jR_st hG
    have tx := tx_at ht st
    refine jz_eq (fun _ => u40_87) ?_
    exact jz_end (hG) rfl
  have loop19 : ∀ (d : Nat) (i : Nat), ∀  {G : jm_H}, i + d = 401 ∧ i ≤ 400 → jR Z t H0 G → jz (jR Z t H0) jz_0 (fun Q => jm_w S (jm_rk 40 [.ref 3, .int (nI k)]) 40 19 [.ref 3, .int (nI k), .int (nI i)] [] G Q) := by
    intro d
    induction d with
    | zero =>
      intro i G hm hG
      omega
    | succ d ih =>
      intro i G hm hG
      have b30 : ∀  {G : jm_H}, jR Z t H0 G → jz (jR Z t H0) jz_0 (fun Q => jm_w S (jm_rk 40 [.ref 3, .int (nI k)]) 40 30 [.ref 3, .int (nI k), .int (nI i)] [] G Q) := by
        intro G hG
        have st := jR_st hG
        have tx := tx_at ht st
        refine jz_eq (fun _ => u40_30 (by rw [nI_succK, rk34 (by omega), rk40 (by omega)]; omega) (st_t3 st)) ?_
        refine jz_call (by rw [nI_succK]; exact E (hG)) (fun v G hG hv => ?_)
        obtain rfl := hv
        have st := jR_st hG
        have tx := tx_at ht st
        refine jz_eq (fun _ => u40_37 (show 4 < _ by rw [rk40 (by omega)]; omega) (st_t3 st)) ?_
        refine jz_call (z28 ht (hG)) (fun v G hG hv => ?_)
        obtain ⟨xv, rfl⟩ := hv
        have st := jR_st hG
        have tx := tx_at ht st
        refine jz_eq (fun _ => u40_43 (by rw [nI_succK, rk34 (by omega), rk40 (by omega)]; omega) (st_t3 st)) ?_
        refine jz_call (by rw [nI_succK]; exact E (hG)) (fun v G hG hv => ?_)
        obtain rfl := hv
        have st := jR_st hG
        have tx := tx_at ht st
        refine jz_eq (fun _ => u40_51) ?_
        refine jz_if (fun c51 => ?_) (fun c51 => ?_)
        · exact b70 (hG)
        · have st := jR_st hG
          have tx := tx_at ht st
          refine jz_eq (fun _ => u40_61 (st_t3 st)) ?_
          refine jz_if (fun c61 => ?_) (fun c61 => ?_)
          · rw [nI_succK]
            exact ih (i + 1) ⟨by omega, i400 hm.2 c51⟩ (hG)
          · exact b70 (hG)
      have st := jR_st hG
      have tx := tx_at ht st
      refine jz_eq (fun _ => u40_19) ?_
      refine jz_if (fun c19 => ?_) (fun c19 => ?_)
      · exact b30 (hG)
      · have st := jR_st hG
        have tx := tx_at ht st
        refine jz_eq (fun _ => u40_23 (show 4 < _ by rw [rk40 (by omega)]; omega) (st_t3 st)) ?_
        refine jz_call (z28 ht (hG)) (fun v G hG hv => ?_)
        obtain ⟨xv, rfl⟩ := hv
        have st := jR_st hG
        have tx := tx_at ht st
        refine jz_eq (fun _ => u40_29) ?_
        exact b30 (hG)
  have b0 : ∀  {G : jm_H}, jR Z t H0 G → jz (jR Z t H0) jz_0 (fun Q => jm_w S (jm_rk 40 [.ref 3, .int (nI k)]) 40 0 [.ref 3, .int (nI k), .null] [] G Q) := by
    intro G hG
    have st := jR_st hG
    have tx := tx_at ht st
    refine jz_eq (fun _ => u40_0 (show 4 < _ by rw [rk40 (by omega)]; omega) (st_t3 st)) ?_
    refine jz_call (z28 ht (hG)) (fun v G hG hv => ?_)
    obtain ⟨xv, rfl⟩ := hv
    have st := jR_st hG
    have tx := tx_at ht st
    refine jz_eq (fun _ => u40_6 (show 4 < _ by rw [rk40 (by omega)]; omega) (st_t3 st)) ?_
    refine jz_call (z28 ht (hG)) (fun v G hG hv => ?_)
    obtain ⟨xv, rfl⟩ := hv
    have st := jR_st hG
    have tx := tx_at ht st
    refine jz_eq (fun _ => u40_13) ?_
    refine jz_if (fun c13 => ?_) (fun c13 => ?_)
    · have st := jR_st hG
      have tx := tx_at ht st
      refine jz_eq (fun _ => u40_17) ?_
      exact loop19 401 0 ⟨by omega, by omega⟩ (hG)
    · have st := jR_st hG
      have tx := tx_at ht st
      refine jz_eq (fun _ => u40_16) ?_
      exact jz_end (hG) rfl
  refine jz_eq (fun _ => en40) ?_
  exact b0 (hG)
theorem z36 (ht : t = 7 ∨ t = 177) {k : Nat} (hk : k ≤ 8) (E : ∀ {G : jm_H}, jR Z t H0 G → jz (jR Z t H0) jz_0 (fun Q => jm_c S 34 [.ref 3, .int (nI (k + 1))] G Q)) {G : jm_H} (hG : jR Z t H0 G) : jz (jR Z t H0) jz_0 (fun Q => jm_c S 36 [.ref 3, .int (nI k)] G Q) := by
  have b131 : ∀  {G : jm_H}, jR Z t H0 G → jz (jR Z t H0) jz_0 (fun Q => jm_w S (jm_rk 36 [.ref 3, .int (nI k)]) 36 131 [.ref 3, .int (nI k)] [] G Q) := by
    intro G hG
    have st := jR_st hG
    have tx := tx_at ht st
    refine jz_eq (fun _ => u36_131) ?_
    exact jz_end (hG) rfl
  have b4 : ∀ {p0 : Int32} {G : jm_H}, jR Z t H0 G → jz (jR Z t H0) jz_0 (fun Q => jm_w S (jm_rk 36 [.ref 3, .int (nI k)]) 36 4 [.ref 3, .int (nI k)] [.int p0] G Q) := by
    intro p0 G hG
    by_cases hs0 : p0 = (2 : Int32)
    · subst hs0
      have st := jR_st hG
      have tx := tx_at ht st
      refine jz_eq (fun _ => u36_4_2) ?_
      have st := jR_st hG
      have tx := tx_at ht st
      refine jz_eq (fun _ => u36_78 (show 5 < _ by rw [rk36 (by omega)]; omega) (st_t3 st)) ?_
      refine jz_call (z38 ht (hG)) (fun v G hG hv => ?_)
      obtain rfl := hv
      have st := jR_st hG
      have tx := tx_at ht st
      refine jz_eq (fun _ => u36_82) ?_
      exact b131 (hG)
    by_cases hs1 : p0 = (3 : Int32)
    · subst hs1
      have st := jR_st hG
      have tx := tx_at ht st
      refine jz_eq (fun _ => u36_4_3) ?_
      have st := jR_st hG
      have tx := tx_at ht st
      have e3_2 : jm_R G 3 2 = t := hG.2.1
      refine jz_eq (fun _ => u36_56 (st_t3 st) (by simp only [e3_2]; omega) (show 1 < _ by rw [rk36 (by omega)]; omega) (by simp only [e3_2]; exact tx.1)) ?_
      simp only [e3_2]
      refine jz_call (z37 ht (hG)) (fun v G hG hv => ?_)
      obtain rfl := hv
      have st := jR_st hG
      have tx := tx_at ht st
      refine jz_eq (fun _ => u36_69 (show 4 < _ by rw [rk36 (by omega)]; omega) (st_t3 st)) ?_
      refine jz_call (z28 ht (hG)) (fun v G hG hv => ?_)
      obtain ⟨xv, rfl⟩ := hv
      have st := jR_st hG
      have tx := tx_at ht st
      refine jz_eq (fun _ => u36_74) ?_
      exact b131 (hG)
    by_cases hs2 : p0 = (6 : Int32)
    · subst hs2
      have st := jR_st hG
      have tx := tx_at ht st
      refine jz_eq (fun _ => u36_4_6) ?_
      have st := jR_st hG
      have tx := tx_at ht st
      refine jz_eq (fun _ => u36_93 (show 4 < _ by rw [rk36 (by omega)]; omega) (st_t3 st)) ?_
      refine jz_call (z28 ht (hG)) (fun v G hG hv => ?_)
      obtain ⟨xv, rfl⟩ := hv
      have st := jR_st hG
      have tx := tx_at ht st
      refine jz_eq (fun _ => u36_99 (by rw [rk39 (by omega), rk36 (by omega)]; omega) (st_t3 st)) ?_
      refine jz_call (z39 ht hk E (hG)) (fun v G hG hv => ?_)
      obtain rfl := hv
      have st := jR_st hG
      have tx := tx_at ht st
      have e3_2 : jm_R G 3 2 = t := hG.2.1
      refine jz_eq (fun _ => u36_105 (st_t3 st) (by simp only [e3_2]; omega) (show 1 < _ by rw [rk36 (by omega)]; omega) (by simp only [e3_2]; exact tx.1)) ?_
      simp only [e3_2]
      refine jz_call (z37 ht (hG)) (fun v G hG hv => ?_)
      obtain rfl := hv
      have st := jR_st hG
      have tx := tx_at ht st
      refine jz_eq (fun _ => u36_115) ?_
      exact b131 (hG)
    by_cases hs3 : p0 = (7 : Int32)
    · subst hs3
      have st := jR_st hG
      have tx := tx_at ht st
      refine jz_eq (fun _ => u36_4_7) ?_
      have st := jR_st hG
      have tx := tx_at ht st
      refine jz_eq (fun _ => u36_118 (by rw [rk40 (by omega), rk36 (by omega)]; omega) (st_t3 st)) ?_
      refine jz_call (z40 ht hk E (hG)) (fun v G hG hv => ?_)
      obtain rfl := hv
      have st := jR_st hG
      have tx := tx_at ht st
      refine jz_eq (fun _ => u36_123) ?_
      exact b131 (hG)
    by_cases hs4 : p0 = (40 : Int32)
    · subst hs4
      have st := jR_st hG
      have tx := tx_at ht st
      refine jz_eq (fun _ => u36_4_40) ?_
      have st := jR_st hG
      have tx := tx_at ht st
      refine jz_eq (fun _ => u36_85 (by rw [rk39 (by omega), rk36 (by omega)]; omega) (st_t3 st)) ?_
      refine jz_call (z39 ht hk E (hG)) (fun v G hG hv => ?_)
      obtain rfl := hv
      have st := jR_st hG
      have tx := tx_at ht st
      refine jz_eq (fun _ => u36_90) ?_
      exact b131 (hG)
    have st := jR_st hG
    have tx := tx_at ht st
    refine jz_eq (fun _ => u36_4_d hs0 hs1 hs2 hs3 hs4) ?_
    have st := jR_st hG
    have tx := tx_at ht st
    refine jz_eq (fun _ => u36_126 (show 1 < _ by rw [rk36 (by omega)]; omega) (st_t3 st)) ?_
    refine jz_call (z29 ht (hG)) (fun v G hG hv => ?_)
    obtain rfl := hv
    exact b131 (hG)
  have b0 : ∀  {G : jm_H}, jR Z t H0 G → jz (jR Z t H0) jz_0 (fun Q => jm_w S (jm_rk 36 [.ref 3, .int (nI k)]) 36 0 [.ref 3, .int (nI k)] [] G Q) := by
    intro G hG
    have st := jR_st hG
    have tx := tx_at ht st
    refine jz_eq (fun _ => u36_0 (st_t3 st)) ?_
    exact b4 (hG)
  refine jz_eq (fun _ => en36) ?_
  exact b0 (hG)
theorem z35 (ht : t = 7 ∨ t = 177) {k : Nat} (hk : k ≤ 8) (E : ∀ {G : jm_H}, jR Z t H0 G → jz (jR Z t H0) jz_0 (fun Q => jm_c S 34 [.ref 3, .int (nI (k + 1))] G Q)) {G : jm_H} (hG : jR Z t H0 G) : jz (jR Z t H0) jz_0 (fun Q => jm_c S 35 [.ref 3, .int (nI k)] G Q) := by
  have b76 : ∀ {x2 : Int32} {w3 : Value} {G : jm_H}, jR Z t H0 G → jz (jR Z t H0) jz_0 (fun Q => jm_w S (jm_rk 35 [.ref 3, .int (nI k)]) 35 76 [.ref 3, .int (nI k), .int x2, w3] [] G Q) := by
    intro x2 w3 G hG
    have st := jR_st hG
    have tx := tx_at ht st
    refine jz_eq (fun _ => u35_76) ?_
    exact jz_end (hG) rfl
  have loop7 : ∀ (d : Nat) (i : Nat), ∀ {w3 : Value} {G : jm_H}, i + d = 401 → jR Z t H0 G → jz (jR Z t H0) jz_0 (fun Q => jm_w S (jm_rk 35 [.ref 3, .int (nI k)]) 35 7 [.ref 3, .int (nI k), .int (nI i), w3] [] G Q) := by
    intro d
    induction d with
    | zero =>
      intro i w3 G hm hG
      refine jz_eq (fun _ => u35_7) (jz_if (fun _ => ?_) (fun c => absurd (show (400 : Int32) < nI i from (nI_ltI (a := 400) (by decide) (by omega)).mpr (by omega)) c))
      exact jz_eq (fun _ => u35_76) (jz_end hG rfl)
    | succ d ih =>
      intro i w3 G hm hG
      have b46 : ∀ {p0 : Int32} {w3 : Value} {G : jm_H}, jR Z t H0 G → jz (jR Z t H0) jz_0 (fun Q => jm_w S (jm_rk 35 [.ref 3, .int (nI k)]) 35 46 [.ref 3, .int (nI k), .int (nI i), w3] [.int p0] G Q) := by
        intro p0 w3 G hG
        have st := jR_st hG
        have tx := tx_at ht st
        refine jz_eq (fun _ => u35_46 (st_t3 st) (show 4 < _ by rw [rk35 (by omega)]; omega)) ?_
        refine jz_call (z28 ht (hG)) (fun v G hG hv => ?_)
        obtain ⟨xv, rfl⟩ := hv
        have st := jR_st hG
        have tx := tx_at ht st
        refine jz_eq (fun _ => u35_55 (by rw [rk36 (by omega), rk35 (by omega)]; omega) (st_t3 st)) ?_
        refine jz_call (z36 ht hk E (hG)) (fun v G hG hv => ?_)
        obtain rfl := hv
        have st := jR_st hG
        have tx := tx_at ht st
        have e3_2 : jm_R G 3 2 = t := hG.2.1
        refine jz_eq (fun _ => u35_61 (st_t3 st) (by simp only [e3_2]; omega) (show 1 < _ by rw [rk35 (by omega)]; omega) (by simp only [e3_2]; exact tx.1)) ?_
        simp only [e3_2]
        refine jz_call (z37 ht (hG)) (fun v G hG hv => ?_)
        obtain rfl := hv
        have st := jR_st hG
        have tx := tx_at ht st
        refine jz_eq (fun _ => u35_70) ?_
        rw [nI_succK]
        exact ih (i + 1) (by omega) (hG)
      have b32 : ∀ {w3 : Value} {G : jm_H}, jR Z t H0 G → jz (jR Z t H0) jz_0 (fun Q => jm_w S (jm_rk 35 [.ref 3, .int (nI k)]) 35 32 [.ref 3, .int (nI k), .int (nI i), w3] [] G Q) := by
        intro w3 G hG
        have st := jR_st hG
        have tx := tx_at ht st
        refine jz_eq (fun _ => u35_32 (st_t3 st)) ?_
        refine jz_if (fun c32 => ?_) (fun c32 => ?_)
        · have st := jR_st hG
          have tx := tx_at ht st
          refine jz_eq (fun _ => u35_45) ?_
          exact b46 (hG)
        · have st := jR_st hG
          have tx := tx_at ht st
          refine jz_eq (fun _ => u35_41) ?_
          exact b46 (hG)
      have st := jR_st hG
      have tx := tx_at ht st
      refine jz_eq (fun _ => u35_7) ?_
      refine jz_if (fun c7 => ?_) (fun c7 => ?_)
      · exact b76 (hG)
      · have st := jR_st hG
        have tx := tx_at ht st
        refine jz_eq (fun _ => u35_14 (st_t3 st)) ?_
        refine jz_if (fun c14 => ?_) (fun c14 => ?_)
        · exact b32 (hG)
        · have st := jR_st hG
          have tx := tx_at ht st
          refine jz_eq (fun _ => u35_23 (st_t3 st)) ?_
          refine jz_if (fun c23 => ?_) (fun c23 => ?_)
          · exact b76 (hG)
          · exact b32 (hG)
  have b0 : ∀  {G : jm_H}, jR Z t H0 G → jz (jR Z t H0) jz_0 (fun Q => jm_w S (jm_rk 35 [.ref 3, .int (nI k)]) 35 0 [.ref 3, .int (nI k), .null, .null] [] G Q) := by
    intro G hG
    have st := jR_st hG
    have tx := tx_at ht st
    refine jz_eq (fun _ => u35_0 (by rw [rk36 (by omega), rk35 (by omega)]; omega) (st_t3 st)) ?_
    refine jz_call (z36 ht hk E (hG)) (fun v G hG hv => ?_)
    obtain rfl := hv
    have st := jR_st hG
    have tx := tx_at ht st
    refine jz_eq (fun _ => u35_5) ?_
    exact loop7 401 0 (by omega) (hG)
  refine jz_eq (fun _ => en35) ?_
  exact b0 (hG)
theorem y34 (ht : t = 7 ∨ t = 177) {k : Nat} (hk : k ≤ 8) (E : ∀ {G : jm_H}, jR Z t H0 G → jz (jR Z t H0) jz_0 (fun Q => jm_c S 34 [.ref 3, .int (nI (k + 1))] G Q)) {G : jm_H} (hG : jR Z t H0 G) : jz (jR Z t H0) jz_0 (fun Q => jm_c S 34 [.ref 3, .int (nI k)] G Q) := by
  have b130 : ∀ {x2 : Int32} {x3 : Int32} {w4 : Value} {G : jm_H}, jR Z t H0 G → jz (jR Z t H0) jz_0 (fun Q => jm_w S (jm_rk 34 [.ref 3, .int (nI k)]) 34 130 [.ref 3, .int (nI k), .int x2, .int x3, w4] [] G Q) := by
    intro x2 x3 w4 G hG
    have st := jR_st hG
    have tx := tx_at ht st
    refine jz_eq (fun _ => u34_130) ?_
    exact jz_end (hG) rfl
  have loop59 : ∀ (d : Nat) (i : Nat), ∀ {x2 : Int32} {w4 : Value} {G : jm_H}, i + d = 401 → jR Z t H0 G → jz (jR Z t H0) jz_0 (fun Q => jm_w S (jm_rk 34 [.ref 3, .int (nI k)]) 34 59 [.ref 3, .int (nI k), .int x2, .int (nI i), w4] [] G Q) := by
    intro d
    induction d with
    | zero =>
      intro i x2 w4 G hm hG
      refine jz_eq (fun _ => u34_59) (jz_if (fun _ => ?_) (fun c => absurd (show (400 : Int32) < nI i from (nI_ltI (a := 400) (by decide) (by omega)).mpr (by omega)) c))
      exact jz_eq (fun _ => u34_130) (jz_end hG rfl)
    | succ d ih =>
      intro i x2 w4 G hm hG
      have b98 : ∀ {x2 : Int32} {p0 : Int32} {w4 : Value} {G : jm_H}, jR Z t H0 G → jz (jR Z t H0) jz_0 (fun Q => jm_w S (jm_rk 34 [.ref 3, .int (nI k)]) 34 98 [.ref 3, .int (nI k), .int x2, .int (nI i), w4] [.int p0] G Q) := by
        intro x2 p0 w4 G hG
        have st := jR_st hG
        have tx := tx_at ht st
        refine jz_eq (fun _ => u34_98 (st_t3 st) (show 4 < _ by rw [rk34 (by omega)]; omega)) ?_
        refine jz_call (z28 ht (hG)) (fun v G hG hv => ?_)
        obtain ⟨xv, rfl⟩ := hv
        have st := jR_st hG
        have tx := tx_at ht st
        refine jz_eq (fun _ => u34_108 (by rw [rk35 (by omega), rk34 (by omega)]; omega) (st_t3 st)) ?_
        refine jz_call (z35 ht hk E (hG)) (fun v G hG hv => ?_)
        obtain rfl := hv
        have st := jR_st hG
        have tx := tx_at ht st
        have e3_2 : jm_R G 3 2 = t := hG.2.1
        refine jz_eq (fun _ => u34_114 (st_t3 st) (by simp only [e3_2]; omega) (show 1 < _ by rw [rk34 (by omega)]; omega) (by simp only [e3_2]; exact tx.1)) ?_
        simp only [e3_2]
        refine jz_call (z37 ht (hG)) (fun v G hG hv => ?_)
        obtain rfl := hv
        have st := jR_st hG
        have tx := tx_at ht st
        refine jz_eq (fun _ => u34_124) ?_
        rw [nI_succK]
        exact ih (i + 1) (by omega) (hG)
      have b84 : ∀ {x2 : Int32} {w4 : Value} {G : jm_H}, jR Z t H0 G → jz (jR Z t H0) jz_0 (fun Q => jm_w S (jm_rk 34 [.ref 3, .int (nI k)]) 34 84 [.ref 3, .int (nI k), .int x2, .int (nI i), w4] [] G Q) := by
        intro x2 w4 G hG
        have st := jR_st hG
        have tx := tx_at ht st
        refine jz_eq (fun _ => u34_84 (st_t3 st)) ?_
        refine jz_if (fun c84 => ?_) (fun c84 => ?_)
        · have st := jR_st hG
          have tx := tx_at ht st
          refine jz_eq (fun _ => u34_97) ?_
          exact b98 (hG)
        · have st := jR_st hG
          have tx := tx_at ht st
          refine jz_eq (fun _ => u34_93) ?_
          exact b98 (hG)
      have st := jR_st hG
      have tx := tx_at ht st
      refine jz_eq (fun _ => u34_59) ?_
      refine jz_if (fun c59 => ?_) (fun c59 => ?_)
      · exact b130 (hG)
      · have st := jR_st hG
        have tx := tx_at ht st
        refine jz_eq (fun _ => u34_66 (st_t3 st)) ?_
        refine jz_if (fun c66 => ?_) (fun c66 => ?_)
        · exact b84 (hG)
        · have st := jR_st hG
          have tx := tx_at ht st
          refine jz_eq (fun _ => u34_75 (st_t3 st)) ?_
          refine jz_if (fun c75 => ?_) (fun c75 => ?_)
          · exact b130 (hG)
          · exact b84 (hG)
  have b57 : ∀ {x2 : Int32} {G : jm_H}, jR Z t H0 G → jz (jR Z t H0) jz_0 (fun Q => jm_w S (jm_rk 34 [.ref 3, .int (nI k)]) 34 57 [.ref 3, .int (nI k), .int x2, .null, .null] [] G Q) := by
    intro x2 G hG
    have st := jR_st hG
    have tx := tx_at ht st
    refine jz_eq (fun _ => u34_57) ?_
    exact loop59 401 0 (by omega) (hG)
  have b38 : ∀ {x2 : Int32} {G : jm_H}, jR Z t H0 G → jz (jR Z t H0) jz_0 (fun Q => jm_w S (jm_rk 34 [.ref 3, .int (nI k)]) 34 38 [.ref 3, .int (nI k), .int x2, .null, .null] [] G Q) := by
    intro x2 G hG
    have st := jR_st hG
    have tx := tx_at ht st
    refine jz_eq (fun _ => u34_38 (by rw [rk35 (by omega), rk34 (by omega)]; omega) (st_t3 st)) ?_
    refine jz_call (z35 ht hk E (hG)) (fun v G hG hv => ?_)
    obtain rfl := hv
    have st := jR_st hG
    have tx := tx_at ht st
    refine jz_eq (fun _ => u34_43) ?_
    refine jz_if (fun c43 => ?_) (fun c43 => ?_)
    · exact b57 (hG)
    · have st := jR_st hG
      have tx := tx_at ht st
      have e3_2 : jm_R G 3 2 = t := hG.2.1
      refine jz_eq (fun _ => u34_47 (st_t3 st) (by simp only [e3_2]; omega) (show 1 < _ by rw [rk34 (by omega)]; omega) (by simp only [e3_2]; exact tx.1)) ?_
      simp only [e3_2]
      refine jz_call (z37 ht (hG)) (fun v G hG hv => ?_)
      obtain rfl := hv
      exact b57 (hG)
  have b26 : ∀ {p0 : Int32} {G : jm_H}, jR Z t H0 G → jz (jR Z t H0) jz_0 (fun Q => jm_w S (jm_rk 34 [.ref 3, .int (nI k)]) 34 26 [.ref 3, .int (nI k), .null, .null, .null] [.int p0] G Q) := by
    intro p0 G hG
    have st := jR_st hG
    have tx := tx_at ht st
    refine jz_eq (fun _ => u34_26) ?_
    refine jz_if (fun c26 => ?_) (fun c26 => ?_)
    · exact b38 (hG)
    · have st := jR_st hG
      have tx := tx_at ht st
      refine jz_eq (fun _ => u34_31 (show 4 < _ by rw [rk34 (by omega)]; omega) (st_t3 st)) ?_
      refine jz_call (z28 ht (hG)) (fun v G hG hv => ?_)
      obtain ⟨xv, rfl⟩ := hv
      have st := jR_st hG
      have tx := tx_at ht st
      refine jz_eq (fun _ => u34_37) ?_
      exact b38 (hG)
  have b0 : ∀  {G : jm_H}, jR Z t H0 G → jz (jR Z t H0) jz_0 (fun Q => jm_w S (jm_rk 34 [.ref 3, .int (nI k)]) 34 0 [.ref 3, .int (nI k), .null, .null, .null] [] G Q) := by
    intro G hG
    have st := jR_st hG
    have tx := tx_at ht st
    refine jz_eq (fun _ => u34_0) ?_
    refine jz_if (fun c0 => ?_) (fun c0 => ?_)
    · have st := jR_st hG
      have tx := tx_at ht st
      refine jz_eq (fun _ => u34_12 (st_t3 st)) ?_
      refine jz_if (fun c12 => ?_) (fun c12 => ?_)
      · have st := jR_st hG
        have tx := tx_at ht st
        refine jz_eq (fun _ => u34_25) ?_
        exact b26 (hG)
      · have st := jR_st hG
        have tx := tx_at ht st
        refine jz_eq (fun _ => u34_21) ?_
        exact b26 (hG)
    · have st := jR_st hG
      have tx := tx_at ht st
      refine jz_eq (fun _ => u34_6 (show 1 < _ by rw [rk34 (by omega)]; omega) (st_t3 st)) ?_
      refine jz_call (z29 ht (hG)) (fun v G hG hv => ?_)
      obtain rfl := hv
      have st := jR_st hG
      have tx := tx_at ht st
      refine jz_eq (fun _ => u34_11) ?_
      exact jz_end (hG) rfl
  refine jz_eq (fun _ => en34) ?_
  exact b0 (hG)
theorem z34 (ht : t = 7 ∨ t = 177) : ∀ (d k : Nat), k + d = 9 → ∀ {G : jm_H}, jR Z t H0 G → jz (jR Z t H0) jz_0 (fun Q => jm_c S 34 [.ref 3, .int (nI k)] G Q)
  | 0, k, hk, G, hG => by
    have st := jR_st hG
    refine jz_eq (fun _ => en34.trans u34_0) (jz_if (fun c => ?_) (fun _ => ?_))
    · have := (nI_leI (b := 8) (by omega) (by decide)).mp c
      omega
    · refine jz_eq (fun _ => u34_6 (show 1 < _ by rw [rk34 (by omega)]; omega) (st_t3 st)) ?_
      refine jz_call (z29 ht hG) (fun v G hG hv => ?_)
      obtain rfl := hv
      exact jz_eq (fun _ => u34_11) (jz_end hG rfl)
  | d + 1, k, hk, G, hG => y34 ht (by omega) (fun hG => z34 ht d (k + 1) (by omega) hG) hG
theorem z32  (ht : t = 7 ∨ t = 177) {G : jm_H} (hG : jR Z t H0 G) : jz (jR Z t H0) jz_0 (fun Q => jm_c S 32 [.ref 3] G Q) := by
  have b109 : ∀ {y1 : Int64} {x3 : Int32} {G : jm_H}, jR Z t H0 G → jz (jR Z t H0) jz_0 (fun Q => jm_w S 46 32 109 [.ref 3, .long y1, .null, .int x3] [] G Q) := by
    intro y1 x3 G hG
    have st := jR_st hG
    have tx := tx_at ht st
    refine jz_eq (fun _ => u32_109) ?_
    exact jz_end (hG) rfl
  have b40 : ∀ {y1 : Int64} {x3 : Int32} {G : jm_H}, jR Z t H0 G → jz (jR Z t H0) jz_0 (fun Q => jm_w S 46 32 40 [.ref 3, .long y1, .null, .int x3] [] G Q) := by
    intro y1 x3 G hG
    have st := jR_st hG
    have tx := tx_at ht st
    refine jz_eq (fun _ => u32_40 (st_t3 st)) ?_
    refine jz_call (z34 ht 9 0 rfl (hG)) (fun v G hG hv => ?_)
    obtain rfl := hv
    have st := jR_st hG
    have tx := tx_at ht st
    refine jz_eq (fun _ => u32_45 (st_t3 st)) ?_
    refine jz_call (z28 ht (hG)) (fun v G hG hv => ?_)
    obtain ⟨xv, rfl⟩ := hv
    have st := jR_st hG
    have tx := tx_at ht st
    have e3_2 : jm_R G 3 2 = t := hG.2.1
    refine jz_eq (fun _ => u32_51 (st_t3 st) (by simp only [e3_2]; omega) (by simp only [e3_2]; exact tx.1)) ?_
    simp only [e3_2]
    refine jz_call (z37 ht (hG)) (fun v G hG hv => ?_)
    obtain rfl := hv
    have st := jR_st hG
    have tx := tx_at ht st
    have e3_2 : jm_R G 3 2 = t := hG.2.1
    have e3_1 : jm_R G 3 1 = 6 := st_r3_1 st
    refine jz_eq (fun _ => u32_68 (st_t3 st) (by simp only [e3_2, e3_1]; omega) (by simp only [e3_2, e3_1]; exact tx.1) (by simp only [e3_2, e3_1]; decide) (by simp only [e3_2, e3_1]; decide) (by simp only [e3_2, e3_1, st_t6 st]; decide)) ?_
    simp only [e3_2, e3_1]
    simp only [st_l6 st]
    refine jz_if (fun c68 => ?_) (fun c68 => ?_)
    · exact b109 (hG)
    · have st := jR_st hG
      have tx := tx_at ht st
      have e3_1 : jm_R G 3 1 = 6 := st_r3_1 st
      have e3_2 : jm_R G 3 2 = t := hG.2.1
      refine jz_eq (fun _ => u32_83 (st_t3 st) (by simp only [e3_1, e3_2]; decide) (by simp only [e3_1, e3_2]; omega) (by simp only [e3_1, e3_2]; exact tx.1) (by simp only [e3_1, e3_2, st_l6 st]; exact tx_i8 ht hG c68) (by simp only [e3_1, e3_2]; exact st_t6 st)) ?_
      simp only [e3_1, e3_2]
      exact b109 (jR_pI (jR_pL (hG) (by omega)) (by omega) (by omega) (jv_txt ht (fun h => absurd h (by decide)) (fun _ => tx_s8 ht hG c68)))
  have b0 : ∀  {G : jm_H}, jR Z t H0 G → jz (jR Z t H0) jz_0 (fun Q => jm_w S 46 32 0 [.ref 3, .null, .null, .null] [] G Q) := by
    intro G hG
    have st := jR_st hG
    have tx := tx_at ht st
    refine jz_eq (fun _ => u32_0 (st_t3 st)) ?_
    refine jz_call (z28 ht (hG)) (fun v G hG hv => ?_)
    obtain ⟨xv, rfl⟩ := hv
    have st := jR_st hG
    have tx := tx_at ht st
    refine jz_eq (fun _ => u32_5 (st_t3 st)) ?_
    refine jz_call (z28 ht (hG)) (fun v G hG hv => ?_)
    obtain ⟨xv, rfl⟩ := hv
    have st := jR_st hG
    have tx := tx_at ht st
    refine jz_eq (fun _ => u32_21) ?_
    refine jz_if (fun c21 => ?_) (fun c21 => ?_)
    · have st := jR_st hG
      have tx := tx_at ht st
      refine jz_eq (fun _ => u32_25 (st_t3 st)) ?_
      refine jz_call (z33 ht (hG)) (fun v G hG hv => ?_)
      obtain ⟨xv, rfl⟩ := hv
      have st := jR_st hG
      have tx := tx_at ht st
      refine jz_eq (fun _ => u32_30) ?_
      refine jz_if (fun c30 => ?_) (fun c30 => ?_)
      · exact b40 (hG)
      · have st := jR_st hG
        have tx := tx_at ht st
        refine jz_eq (fun _ => u32_34 (st_t3 st)) ?_
        refine jz_call (z31 ht (hG)) (fun v G hG hv => ?_)
        obtain rfl := hv
        exact b40 (hG)
    · have st := jR_st hG
      have tx := tx_at ht st
      refine jz_eq (fun _ => u32_24) ?_
      exact jz_end (hG) rfl
  refine jz_eq (fun _ => en32) ?_
  exact b0 (hG)
theorem y17 (ht : t = 7 ∨ t = 177) {G : jm_H} (hG : jR Z t H0 G) {p0 : Int32} : jz (jR Z t H0) jz_I (fun Q => jm_w S 47 17 43 [.ref 3, .null] [.int p0] G Q) := by
  have b112 : ∀ {x1 : Int32} {G : jm_H}, jR Z t H0 G → jz (jR Z t H0) jz_I (fun Q => jm_w S 47 17 112 [.ref 3, .int x1] [] G Q) := by
    intro x1 G hG
    have st := jR_st hG
    have tx := tx_at ht st
    refine jz_eq (fun _ => u17_112 (st_t3 st)) ?_
    exact jz_end (hG) ⟨_, rfl⟩
  have b82 : ∀ {x1 : Int32} {G : jm_H}, jR Z t H0 G → jz (jR Z t H0) jz_I (fun Q => jm_w S 47 17 82 [.ref 3, .int x1] [] G Q) := by
    intro x1 G hG
    have st := jR_st hG
    have tx := tx_at ht st
    refine jz_eq (fun _ => u17_82 (st_t3 st)) ?_
    refine jz_if (fun c82 => ?_) (fun c82 => ?_)
    · exact b112 (hG)
    · have st := jR_st hG
      have tx := tx_at ht st
      refine jz_eq (fun _ => u17_89 (st_t3 st)) ?_
      refine jz_if (fun c89 => ?_) (fun c89 => ?_)
      · exact b112 (hG)
      · have st := jR_st hG
        have tx := tx_at ht st
        refine jz_eq (fun _ => u17_96 (st_t3 st)) ?_
        exact b112 (jR_pI (jR_pI (hG) (by omega) (by omega) (jv_free jno_3)) (by omega) (by omega) (jv_free jno_3))
  have b70 : ∀ {x1 : Int32} {G : jm_H}, jR Z t H0 G → jz (jR Z t H0) jz_I (fun Q => jm_w S 47 17 70 [.ref 3, .int x1] [] G Q) := by
    intro x1 G hG
    have st := jR_st hG
    have tx := tx_at ht st
    refine jz_eq (fun _ => u17_70 (st_t3 st)) ?_
    refine jz_if (fun c70 => ?_) (fun c70 => ?_)
    · exact b82 (hG)
    · have st := jR_st hG
      have tx := tx_at ht st
      refine jz_eq (fun _ => u17_77 (st_t3 st)) ?_
      refine jz_call (z29 ht (hG)) (fun v G hG hv => ?_)
      obtain rfl := hv
      exact b82 (hG)
  have loop46 : ∀ (d : Nat) (i : Nat), ∀  {G : jm_H}, i + d = 9 → jR Z t H0 G → jz (jR Z t H0) jz_I (fun Q => jm_w S 47 17 46 [.ref 3, .int (nI i)] [] G Q) := by
    intro d
    induction d with
    | zero =>
      intro i G hm hG
      refine jz_eq (fun _ => u17_46) (jz_if (fun _ => ?_) (fun c => absurd (show (8 : Int32) < nI i from (nI_ltI (a := 8) (by decide) (by omega)).mpr (by omega)) c))
      exact b70 hG
    | succ d ih =>
      intro i G hm hG
      have st := jR_st hG
      have tx := tx_at ht st
      refine jz_eq (fun _ => u17_46) ?_
      refine jz_if (fun c46 => ?_) (fun c46 => ?_)
      · exact b70 (hG)
      · have st := jR_st hG
        have tx := tx_at ht st
        refine jz_eq (fun _ => u17_52 (st_t3 st)) ?_
        refine jz_if (fun c52 => ?_) (fun c52 => ?_)
        · exact b70 (hG)
        · have st := jR_st hG
          have tx := tx_at ht st
          refine jz_eq (fun _ => u17_60 (st_t3 st)) ?_
          refine jz_call (z32 ht (hG)) (fun v G hG hv => ?_)
          obtain rfl := hv
          have st := jR_st hG
          have tx := tx_at ht st
          refine jz_eq (fun _ => u17_64) ?_
          rw [nI_succK]
          exact ih (i + 1) (by omega) (hG)
  have b43 : ∀ {p0 : Int32} {G : jm_H}, jR Z t H0 G → jz (jR Z t H0) jz_I (fun Q => jm_w S 47 17 43 [.ref 3, .null] [.int p0] G Q) := by
    intro p0 G hG
    have st := jR_st hG
    have tx := tx_at ht st
    refine jz_eq (fun _ => u17_43) ?_
    exact loop46 9 0 (by omega) (hG)
  exact b43 hG
theorem z17 (ht : t = 7 ∨ t = 177) {G : jm_H} (hG : jR (fun _ _ => True) t H0 G) : jz (jR (fun a b => 3 ≤ a.toInt ∧ a.toInt ≤ 12 ∧ 0 ≤ b.toInt ∧ b.toInt ≤ 2) t H0) jz_I (fun Q => jm_c S 17 [.ref 3] G Q) := by
  have st := jR_st hG
  refine jz_eq (fun _ => en17.trans (u17_0 (st_t3 st))) (jz_call (z18 ht hG) (fun v G hG hv => ?_))
  obtain rfl := hv
  have st := jR_st hG
  refine jz_eq (fun _ => u17_4 (st_t3 st)) (jz_call (z28 ht hG) (fun v G hG hv => ?_))
  obtain ⟨xv, rfl⟩ := hv
  have st := jR_st hG
  have e3_2 : jm_R G 3 2 = t := hG.2.1
  refine jz_eq (fun _ => u17_9 (st_t3 st) (by rw [e3_2]; omega)) ?_
  rw [e3_2]
  refine jz_call (z30 (by decide) ht hG) (fun v G hG hv => ?_)
  obtain ⟨x, rfl, hx1, hx2⟩ := hv
  have st := jR_st hG
  have tx := tx_at ht st
  have e3_2 : jm_R G 3 2 = t := hG.2.1
  refine jz_eq (fun _ => u17_21 tx.1 (st_t3 st) (by rw [e3_2]; omega)) ?_
  rw [e3_2]
  have k1 : jR (fun a _ => a = x) t H0 (jm_pI G t 4 x) := ⟨jK_pI hG.1 (by omega) (jv_txt ht (fun h => absurd h (by decide)) (fun h => absurd h (by decide))), hG.2.1, by rw [jm_I_pI, if_pos ⟨rfl, rfl⟩]⟩
  refine jz_call (z30 (by decide) ht k1) (fun v G hG hv => ?_)
  obtain ⟨y, rfl, hy1, hy2⟩ := hv
  have st := jR_st hG
  have tx := tx_at ht st
  refine jz_eq (fun _ => u17_34 tx.1 (st_t3 st)) ?_
  have k2 : jR (fun a b => 3 ≤ a.toInt ∧ a.toInt ≤ 12 ∧ 0 ≤ b.toInt ∧ b.toInt ≤ 2) t H0 (jm_pI G t 5 y) := by
    refine ⟨jK_pI hG.1 (by omega) (jv_txt ht (fun h => absurd h (by decide)) (fun h => absurd h (by decide))), hG.2.1, ?_⟩
    have h4 : jm_I G t 4 = x := hG.2.2
    rw [jm_I_pI, if_neg (by omega), jm_I_pI, if_pos ⟨rfl, rfl⟩, h4]
    exact ⟨hx1, hx2, hy1, hy2⟩
  refine jz_call (z28 ht k2) (fun v G hG hv => ?_)
  obtain ⟨xv, rfl⟩ := hv
  exact y17 ht hG
end READ
