/-! the class: tapes fed, taken back, copied; the sum asked; slots filled -/
def js_t (r b : Nat) : Prop := (r = 4 ∧ b = 5) ∨ (r = 160 ∧ b = 161) ∨ (r = 166 ∧ b = 167) ∨ (r = 172 ∧ b = 173)
theorem js_t_ck : (jm_fl.contains (4, 9, 0) && jm_fl.contains (5, 102, 2000) && jm_rl.contains (4, 0, 5) && jm_fl.contains (160, 9, 0) && jm_fl.contains (161, 102, 2000) && jm_rl.contains (160, 0, 161) && jm_fl.contains (166, 9, 0) && jm_fl.contains (167, 102, 2000) && jm_rl.contains (166, 0, 167) && jm_fl.contains (172, 9, 0) && jm_fl.contains (173, 102, 2000) && jm_rl.contains (172, 0, 173)) = true := by decide +kernel
theorem js_t_at {r b : Nat} {H : jm_H} (h : js_t r b) (st : jm_st H) : jm_tg H r = 9 ∧ jm_tg H b = 102 ∧ jm_ln H b = 2000 ∧ jm_R H r 0 = b := by
  have g := js_t_ck
  simp only [Bool.and_eq_true, List.contains_iff_mem] at g
  obtain ⟨⟨⟨⟨⟨⟨⟨⟨⟨⟨⟨a1, a2⟩, a3⟩, b1⟩, b2⟩, b3⟩, c1⟩, c2⟩, c3⟩, d1⟩, d2⟩, d3⟩ := g
  rcases h with ⟨rfl, rfl⟩ | ⟨rfl, rfl⟩ | ⟨rfl, rfl⟩ | ⟨rfl, rfl⟩
  · exact ⟨(st.1 _ a1).1, (st.1 _ a2).1, (st.1 _ a2).2, st.2.1 _ a3⟩
  · exact ⟨(st.1 _ b1).1, (st.1 _ b2).1, (st.1 _ b2).2, st.2.1 _ b3⟩
  · exact ⟨(st.1 _ c1).1, (st.1 _ c2).1, (st.1 _ c2).2, st.2.1 _ c3⟩
  · exact ⟨(st.1 _ d1).1, (st.1 _ d2).1, (st.1 _ d2).2, st.2.1 _ d3⟩
theorem jv_t {r b k : Nat} {v : Int32} (hr : js_t r b) (h : k = 1 → 0 ≤ v.toInt ∧ v.toInt ≤ 2000) : jv r k v := by
  refine ⟨fun g => ?_, fun g => ?_, fun _ => h, fun g => ?_, fun g => ?_, fun g => ?_, fun g => ?_⟩ <;> exfalso <;> revert hr g <;> unfold js_t <;> (try unfold js_S) <;> (try unfold js_U) <;> omega
theorem js_t_lt {r b : Nat} (h : js_t r b) : r < 180 ∧ b < 180 ∧ r ≠ 0 ∧ b ≠ 0 ∧ b ≠ 1 ∧ b ≠ r ∧ jv_no b := by
  unfold js_t at h
  unfold jv_no js_S js_U
  omega
theorem jk_len {r b : Nat} {H : jm_H} (h : jk H) (hr : js_t r b) : ∃ n : Nat, n ≤ 2000 ∧ jm_I H r 1 = nI n := by
  have h1 := (h.2.2 r 1).2.2.1 (by unfold js_t at hr; omega) rfl
  obtain ⟨n, hn, e⟩ := ji_nn (k := 2001) h1.1 (by omega)
  exact ⟨n, by omega, e⟩
section TAPE
variable {S : Option (Nat × (Nat → Int32))} {H0 H : jm_H}
theorem t14 {r b : Nat} {x1 : Int32} (hr : js_t r b) : ∀ (d : Nat) (z : Int) (H : jm_H), z ≤ 24 → z + 8 ≤ 8 * d → -8 ≤ z → jK H0 H → jz (jK H0) jz_0 (fun Q => jm_w S 1 14 3 [.ref r, .int x1, .int (jI z)] [] H Q)
  | 0, z, H, hz, hd, hz2, hK => by
    refine jz_eq (fun _ => u14_3) (jz_if (fun _ => ?_) (fun g => absurd ((jI_lt (b := 0) ⟨by omega, by omega⟩ (by decide)).mpr (by omega)) g))
    exact jz_eq (fun _ => u14_48) (jz_end hK rfl)
  | d + 1, z, H, hz, hd, hz2, hK => by
    have st := hK.1.1
    obtain ⟨t, tb, l, rb⟩ := js_t_at hr st
    obtain ⟨n1, n2, n3, n4, n5, n6, n7⟩ := js_t_lt hr
    obtain ⟨n, hn, en⟩ := jk_len hK.1 hr
    refine jz_eq (fun _ => u14_3) (jz_if (fun _ => jz_eq (fun _ => u14_48) (jz_end hK rfl)) (fun g => ?_))
    have hz0 : 0 ≤ z := by
      have : ¬ z < 0 := fun q => g ((jI_lt (b := 0) ⟨by omega, by omega⟩ (by decide)).mpr q)
      omega
    have e8 : jI z + (-8 : Int32) = jI (z - 8) := by rw [show (-8 : Int32) = jI (-8) from by decide, jI_add, Int.sub_eq_add_neg]
    have go : ∀ G, jK H0 G → jz (jK H0) jz_0 (fun Q => jm_w S 1 14 42 [.ref r, .int x1, .int (jI z)] [] G Q) := by
      intro G hG
      refine jz_eq (fun _ => u14_42) ?_
      rw [e8]
      exact t14 hr d (z - 8) G (by omega) (by omega) (by omega) hG
    refine jz_eq (fun _ => u14_7 t (by rw [rb]; exact n4) (by rw [rb]; exact n5) (by rw [rb, tb]; decide)) ?_
    rw [rb, l, en]
    refine jz_if (fun _ => go H hK) (fun g2 => ?_)
    have hlt : n < 2000 := by
      have : ¬ 2000 ≤ n := fun q => g2 (show Int32.ofNat 2000 ≤ nI n from (nI_leI (a := 2000) (by decide) (by omega)).mpr q)
      omega
    refine jz_eq (fun _ => u14_19 t (by rw [rb]; exact n4) (by rw [rb, l, en]; exact nI_inK hlt (by decide)) (by rw [rb]; exact tb)) ?_
    rw [rb, en]
    refine go _ (jK_pI (jK_pI hK n2 (jv_free n7)) n1 (jv_t hr (fun _ => ?_)))
    rw [jm_I_pI, if_neg (fun q => n6 q.1.symm), en, nI_succK, nI_toInt (by omega)]
    omega
theorem z14 {r b : Nat} {x1 : Int32} (hr : js_t r b) (hK : jK H0 H) : jz (jK H0) jz_0 (fun Q => jm_c S 14 [.ref r, .int x1] H Q) :=
  jz_eq (fun _ => en14.trans u14_0) (t14 (S := S) hr 4 24 H (by decide) (by decide) (by decide) hK)
theorem js_t4 : js_t 4 5 := Or.inl ⟨rfl, rfl⟩
theorem z13 {a b c d e : Int32} (hK : jK H0 H) : jz (jK H0) jz_I (fun Q => jm_c S 13 [.ref 2, .int a, .int b, .int c, .int d, .int e] H Q) := by
  have hr : ∀ {G : jm_H}, jK H0 G → jm_tg G 2 = 12 ∧ jm_R G 2 0 = 4 ∧ jm_tg G 4 = 9 := fun h => ⟨st_t2 h.1.1, st_r2_0 h.1.1, st_t4 h.1.1⟩
  obtain ⟨t, r, t4⟩ := hr hK
  refine jz_eq (fun _ => en13.trans (u13_0 t (by rw [r]; decide) (by rw [r]; exact t4))) (jz_if (fun _ => ?_) (fun _ => jz_eq (fun _ => u13_16) (jz_end hK ⟨_, rfl⟩)))
  refine jz_eq (fun _ => u13_18 t (by rw [r]; decide) (by rw [r]; exact t4)) ?_
  rw [r]
  refine jz_call (z14 js_t4 hK) (fun v G hG hv => ?_)
  obtain ⟨t, r, t4⟩ := hr hG
  rw [hv]
  refine jz_eq (fun _ => u13_26 t (by rw [r]; decide) (by rw [r]; exact t4)) ?_
  rw [r]
  refine jz_call (z14 js_t4 hG) (fun v G hG hv => ?_)
  obtain ⟨t, r, t4⟩ := hr hG
  rw [hv]
  refine jz_eq (fun _ => u13_34 t (by rw [r]; decide) (by rw [r]; exact t4)) ?_
  rw [r]
  refine jz_call (z14 js_t4 hG) (fun v G hG hv => ?_)
  obtain ⟨t, r, t4⟩ := hr hG
  rw [hv]
  refine jz_eq (fun _ => u13_42 t (by rw [r]; decide) (by rw [r]; exact t4)) ?_
  rw [r]
  refine jz_call (z14 js_t4 hG) (fun v G hG hv => ?_)
  obtain ⟨t, r, t4⟩ := hr hG
  rw [hv]
  refine jz_eq (fun _ => u13_51 t (by rw [r]; decide) (by rw [r]; exact t4)) ?_
  rw [r]
  refine jz_call (z14 js_t4 hG) (fun v G hG hv => ?_)
  obtain ⟨t, r, t4⟩ := hr hG
  rw [hv]
  exact jz_eq (fun _ => u13_60 t (by rw [r]; decide) (by rw [r]; exact t4)) (jz_end hG ⟨_, rfl⟩)
theorem z15 {x : Int32} (hK : jK H0 H) : jz (jK H0) jz_I (fun Q => jm_c S 15 [.ref 2, .int x] H Q) := by
  have t := st_t2 hK.1.1
  have r := st_r2_0 hK.1.1
  have t4 := st_t4 hK.1.1
  obtain ⟨n, hn, en⟩ := jk_len hK.1 js_t4
  refine jz_eq (fun _ => en15.trans u15_0) (jz_if (fun _ => jz_eq (fun _ => u15_15) (jz_end hK ⟨_, rfl⟩)) (fun g => ?_))
  refine jz_eq (fun _ => u15_4 t (by rw [r]; decide) (by rw [r]; exact t4)) ?_
  rw [r, en]
  refine jz_if (fun g2 => ?_) (fun _ => jz_eq (fun _ => u15_15) (jz_end hK ⟨_, rfl⟩))
  have h0 : 0 ≤ x.toInt := by
    have : ¬ x.toInt < (0 : Int32).toInt := fun q => g (Int32.lt_iff_toInt_lt.mpr q)
    rw [i32_0] at this
    omega
  have h1 : x.toInt ≤ n := by
    have := Int32.le_iff_toInt_le.mp g2
    rw [nI_toInt (by omega)] at this
    exact this
  obtain ⟨m, hm, rfl⟩ := ji_nn (k := 2001) h0 (by omega)
  rw [nI_toInt (by omega)] at h1
  refine jz_eq (fun _ => u15_17 t (by rw [r]; decide) (by rw [r]; exact t4)) ?_
  rw [r, en, pk_sub (by omega)]
  exact jz_end (jK_pI hK (by decide) (jv_t js_t4 (fun _ => by rw [nI_toInt (by omega)]; omega))) ⟨_, rfl⟩
theorem z91 (hK : jK H0 H) : jz (jK H0) jz_I (fun Q => jm_c S 91 [.ref 2] H Q) := jz_eq (fun _ => en91.trans (u91_0 (st_t2 hK.1.1))) (jz_end hK ⟨_, rfl⟩)
theorem s105 {p a q b : Nat} (hp : js_t p a) (hq : js_t q b) : ∀ (d i : Nat) (H : jm_H), i + d = 2001 → jK H0 H → jz (jK H0) jz_0 (fun Q => jm_w S 2 105 18 [.ref p, .ref q, .int (nI i)] [] H Q)
  | 0, i, H, hd, hK => by
    obtain ⟨n, hn, en⟩ := jk_len hK.1 hp
    refine jz_eq (fun _ => u105_18 (js_t_at hp hK.1.1).1) ?_
    rw [en]
    exact jz_if (fun _ => jz_eq (fun _ => u105_53) (jz_end hK rfl)) (fun g => absurd ((nI_leI (by omega) (by omega)).mpr (by omega)) g)
  | d + 1, i, H, hd, hK => by
    have st := hK.1.1
    obtain ⟨t, ta, la, ra⟩ := js_t_at hp st
    obtain ⟨u, tb, lb, rb⟩ := js_t_at hq st
    obtain ⟨n1, n2, n3, n4, n5, n6, n7⟩ := js_t_lt hp
    obtain ⟨m1, m2, m3, m4, m5, m6, m7⟩ := js_t_lt hq
    refine jz_eq (fun _ => u105_18 t) (jz_if (fun _ => jz_eq (fun _ => u105_53) (jz_end hK rfl)) (fun _ => ?_))
    refine jz_eq (fun _ => u105_26 u (by rw [rb]; exact m4) (by rw [rb]; exact m5) (by rw [rb, tb]; decide)) ?_
    rw [rb, lb]
    refine jz_if (fun _ => jz_eq (fun _ => u105_53) (jz_end hK rfl)) (fun g => ?_)
    have hlt : i < 2000 := by
      have : ¬ 2000 ≤ i := fun q => g (show Int32.ofNat 2000 ≤ nI i from (nI_leI (a := 2000) (by decide) (by omega)).mpr q)
      omega
    refine jz_eq (fun _ => u105_35 t (by rw [ra]; exact n4) u (by rw [rb]; exact m4) (by rw [rb, lb]; exact nI_inK hlt (by decide)) (by rw [rb]; exact Or.inl tb) (by rw [ra, la]; exact nI_inK hlt (by decide)) (by rw [ra]; exact ta)) ?_
    rw [ra, nI_succK]
    exact s105 hp hq d (i + 1) _ (by omega) (jK_pI hK n2 (jv_free n7))
theorem z105 {p a q b : Nat} (hp : js_t p a) (hq : js_t q b) (hK : jK H0 H) : jz (jK H0) jz_0 (fun Q => jm_c S 105 [.ref p, .ref q] H Q) := by
  have st := hK.1.1
  obtain ⟨t, ta, la, ra⟩ := js_t_at hp st
  obtain ⟨u, tb, lb, rb⟩ := js_t_at hq st
  obtain ⟨n1, n2, n3, n4, n5, n6, n7⟩ := js_t_lt hp
  obtain ⟨n, hn, en⟩ := jk_len hK.1 hq
  refine jz_eq (fun _ => en105.trans (u105_0 u t (by rw [ra]; exact n4) (by rw [ra]; exact n5) (by rw [ra, ta]; decide))) ?_
  rw [ra, la, en, jI_n, show Int32.ofNat 2000 = jI 2000 from rfl]
  refine jz_eq (fun _ => c57 ⟨by omega, by omega⟩ ⟨by omega, by omega⟩) ?_
  simp only [Option.toList_some, List.cons_append, List.nil_append]
  refine jz_eq (fun _ => u105_13 t) ?_
  exact s105 (S := S) hp hq 2001 0 _ (by omega) (jK_pI hK n1 (jv_t hp (fun _ => by rw [jI_t ⟨by omega, by omega⟩]; omega)))
end TAPE
