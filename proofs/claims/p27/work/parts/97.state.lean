/-! the class: states, the tape, the slots -/
theorem js_S_c1 : ∀ p, p < 170 → (p = 31 ∨ (35 ≤ p ∧ p ≤ 152 ∧ p % 3 = 2) ∨ p = 157 ∨ p = 163 ∨ p = 169) → (jm_fl.contains (p, 7, 0) && jm_fl.contains (p + 1, 8, 0) && jm_fl.contains (p + 2, 101, 7) && jm_rl.contains (p, 0, p + 1) && jm_rl.contains (p + 1, 0, p + 2)) = true := by decide +kernel
theorem js_S_ck (p : Nat) (h : p < 170) (hp : p = 31 ∨ (35 ≤ p ∧ p ≤ 152 ∧ p % 3 = 2) ∨ p = 157 ∨ p = 163 ∨ p = 169) : (p, 7, 0) ∈ jm_fl ∧ (p + 1, 8, 0) ∈ jm_fl ∧ (p + 2, 101, 7) ∈ jm_fl ∧ (p, 0, p + 1) ∈ jm_rl ∧ (p + 1, 0, p + 2) ∈ jm_rl := by
  have g := js_S_c1 p h hp
  simp only [Bool.and_eq_true, List.contains_iff_mem] at g
  exact ⟨g.1.1.1.1, g.1.1.1.2, g.1.1.2, g.1.2, g.2⟩
theorem js_S_at {p : Nat} {H : jm_H} (hp : js_S p) (st : jm_st H) : (jm_tg H p = 7 ∧ jm_tg H (p + 1) = 8 ∧ jm_tg H (p + 2) = 101 ∧ jm_ln H (p + 2) = 7) ∧ jm_R H p 0 = p + 1 ∧ jm_R H (p + 1) 0 = p + 2 := by
  obtain ⟨m1, m2, m3, m4, m5⟩ := js_S_ck p (by unfold js_S at hp; omega) hp
  exact ⟨⟨(st.1 _ m1).1, (st.1 _ m2).1, (st.1 _ m3).1, (st.1 _ m3).2⟩, st.2.1 _ m4, st.2.1 _ m5⟩
theorem js_S_U {p : Nat} (hp : js_S p) : js_U (p + 1) := by unfold js_S at hp; unfold js_U; omega
theorem js_S_lt {p : Nat} (hp : js_S p) : p + 2 < 180 ∧ jv_no (p + 2) := by
  unfold js_S at hp
  unfold jv_no js_S js_U
  omega
theorem js_S_31 : js_S 31 := Or.inl rfl
theorem jv_S {p k : Nat} {v : Int32} (hp : js_S p) (h1 : k = 1 → 3 ≤ v.toInt ∧ v.toInt ≤ 12) (h2 : k = 2 → 0 ≤ v.toInt ∧ v.toInt ≤ 2) : jv p k v := by
  refine ⟨fun _ => ⟨h1, h2⟩, fun g => ?_, fun g => ?_, fun g => ?_, fun g => ?_, fun g => ?_, fun g => ?_⟩ <;> exfalso <;> revert hp g <;> unfold js_S <;> (try unfold js_U) <;> omega
theorem jv_U {p k : Nat} {v : Int32} (hp : js_S p) (h : v = 0 ∨ v = 1) : jv (p + 1) k v := by
  refine ⟨fun g => ?_, fun _ _ => h, fun g => ?_, fun g => ?_, fun g => ?_, fun g => ?_, fun g => ?_⟩ <;> exfalso <;> revert hp g <;> unfold js_S <;> (try unfold js_U) <;> omega
/-- and what is to be undone, by numbers -/
def jK2 (H0 : jm_H) (o u : Int32) (G : jm_H) : Prop := jK H0 G ∧ jm_I G 2 14 = o ∧ jm_I G 2 15 = u
theorem jK2_pI {H0 G : jm_H} {o u : Int32} {r k : Nat} {v : Int32} (h : jK2 H0 o u G) (hr : r < 180) (h2 : r ≠ 2) (hv : jv r k v) : jK2 H0 o u (jm_pI G r k v) := ⟨jK_pI h.1 hr hv, by rw [jm_I_pI, if_neg (fun g => h2 g.1.symm)]; exact h.2.1, by rw [jm_I_pI, if_neg (fun g => h2 g.1.symm)]; exact h.2.2⟩
theorem jK2_pL {H0 G : jm_H} {o u : Int32} {r k : Nat} {v : Int64} (h : jK2 H0 o u G) (hr : r < 180) : jK2 H0 o u (jm_pL G r k v) := ⟨jK_pL h.1 hr, h.2.1, h.2.2⟩
theorem jK2_of {H0 H : jm_H} (h : jK H0 H) : jK2 H0 (jm_I H 2 14) (jm_I H 2 15) H := ⟨h, rfl, rfl⟩
theorem js_S_2 {p : Nat} (hp : js_S p) : p + 2 < 180 ∧ p ≠ 2 ∧ p + 1 ≠ 2 ∧ p + 1 ≠ 0 ∧ p + 2 ≠ 1 := by unfold js_S at hp; omega
section STATE
variable {S : Option (Nat × (Nat → Int32))} {H0 H : jm_H}
theorem s97g {o u : Int32} {p q : Nat} (hp : js_S p) (hq : js_S q) : ∀ (d i : Nat) (H : jm_H), i + d = 7 → jK2 H0 o u H → jz (jK2 H0 o u) jz_0 (fun Q => jm_w S 1 97 2 [.ref (p + 1), .ref (q + 1), .int (nI i)] [] H Q)
  | 0, i, H, hd, hK => by
    have st := hK.1.1.1
    obtain ⟨⟨t1, t2, t3, l3⟩, r1, r2⟩ := js_S_at hp st
    obtain ⟨⟨u1, u2, u3, m3⟩, q1, q2⟩ := js_S_at hq st
    obtain ⟨n1, n2, n3, n4, n5⟩ := js_S_2 hp
    have b1 := (hK.1.1.2.2 (q + 1) 1).2.1 (js_S_U hq) (Or.inl rfl)
    have k1 := jK2_pI (k := 1) hK (show p + 1 < 180 by omega) n3 (jv_U hp b1)
    have b2 := (k1.1.1.2.2 (q + 1) 2).2.1 (js_S_U hq) (Or.inr rfl)
    have k2 := jK2_pI (k := 2) k1 (show p + 1 < 180 by omega) n3 (jv_U hp b2)
    refine jz_eq (fun _ => u97_2 t2 (by rw [r2]; omega) (by rw [r2]; omega) (by rw [r2, t3]; decide)) ?_
    rw [r2, l3]
    refine jz_if (fun _ => ?_) (fun g => absurd (show Int32.ofNat 7 ≤ nI i from (nI_leI (a := 7) (by decide) (by omega)).mpr (by omega)) g)
    refine jz_eq (fun _ => u97_38 u2 t2 b1 b2) ?_
    exact jz_end k2 rfl
  | d + 1, i, H, hd, hK => by
    have st := hK.1.1.1
    obtain ⟨⟨t1, t2, t3, l3⟩, r1, r2⟩ := js_S_at hp st
    obtain ⟨⟨u1, u2, u3, m3⟩, q1, q2⟩ := js_S_at hq st
    obtain ⟨n1, n2, n3, n4, n5⟩ := js_S_2 hp
    obtain ⟨_, _, _, n6, n7⟩ := js_S_2 hq
    have hl : ¬ Int32.ofNat 7 ≤ nI i := fun g => by have := (nI_leI (a := 7) (by decide) (by omega)).mp g; omega
    have hin : ¬ (nI i < 0 ∨ 7 ≤ (nI i).toNatClampNeg) := nI_inK (by omega) (by decide)
    refine jz_eq (fun _ => u97_2 t2 (by rw [r2]; omega) (by rw [r2]; omega) (by rw [r2, t3]; decide)) ?_
    rw [r2, l3]
    refine jz_if (fun g => absurd g hl) (fun _ => ?_)
    refine jz_eq (fun _ => u97_11 u2 (by rw [q2]; omega) (by rw [q2]; omega) (by rw [q2, u3]; decide)) ?_
    rw [q2, m3]
    refine jz_if (fun g => absurd g hl) (fun _ => ?_)
    refine jz_eq (fun _ => u97_20 t2 (by rw [r2]; omega) u2 (by rw [q2]; omega) (by rw [q2, m3]; exact hin) (by rw [q2]; exact u3) (by rw [r2, l3]; exact hin) (by rw [r2]; exact t3)) ?_
    rw [r2, q2, nI_cl (by omega), nI_succK]
    exact s97g hp hq d (i + 1) _ (by omega) (jK2_pL hK (by omega))
theorem z96 {o u : Int32} {p q : Nat} (hp : js_S p) (hq : js_S q) (hK : jK2 H0 o u H) : jz (jK2 H0 o u) jz_0 (fun Q => jm_c S 96 [.ref p, .ref q] H Q) := by
  have st := hK.1.1.1
  obtain ⟨⟨t1, t2, t3, l3⟩, r1, r2⟩ := js_S_at hp st
  obtain ⟨⟨u1, u2, u3, m3⟩, q1, q2⟩ := js_S_at hq st
  obtain ⟨n1, n2, n3, n4, n5⟩ := js_S_2 hp
  refine jz_eq (fun _ => en96.trans (u96_0 t1 (by rw [r1]; omega) u1 (by rw [q1]; omega) (by rw [r1]; exact t2))) ?_
  rw [r1, q1]
  refine jz_call (K' := jK2 H0 o u) (R' := jz_0) (jz_eq (fun _ => en97.trans u97_0) (s97g (S := S) hp hq 7 0 H (by omega) hK)) (fun v G hG hv => ?_)
  rw [hv]
  have stG := hG.1.1.1
  obtain ⟨⟨t1, _, _, _⟩, _⟩ := js_S_at hp stG
  obtain ⟨⟨u1, _, _, _⟩, _⟩ := js_S_at hq stG
  have c1 := ((hG.1.1.2.2 q 1).1 hq).1 rfl
  have k1 := jK2_pI (k := 1) hG (show p < 180 by omega) n2 (jv_S hp (fun _ => c1) (fun h => absurd h (by decide)))
  have c2 := ((k1.1.1.2.2 q 2).1 hq).2 rfl
  have k2 := jK2_pI (k := 2) k1 (show p < 180 by omega) n2 (jv_S hp (fun h => absurd h (by decide)) (fun _ => c2))
  refine jz_eq (fun _ => u96_11 u1 t1) ?_
  exact jz_end k2 rfl
/-- the remainder by 40, of what is not below 0 -/
theorem z95 {z : Nat} (hz : z < 1000) {Q : Option Value → jm_H → Prop} : jm_c S 95 [.int (nI z), .int 40] H Q = Q (some (.int (nI (z % 40)))) H := by
  have e : ∀ z, z < 1000 → 0 ≤ (nI z ^^^ (40 : Int32)) ∧ nI z - nI z / 40 * 40 = nI (z % 40) := by decide +kernel
  obtain ⟨e1, e2⟩ := e z hz
  rw [en95, u95_0 (by decide), if_pos e1, u95_18, e2]
theorem js_past : ∀ j, j < 40 → (34, j, 35 + 3 * j) ∈ jm_rl := by decide +kernel
theorem st_past {j : Nat} (hj : j < 40) (st : jm_st H) : jm_R H 34 j = 35 + 3 * j := st.2.1 _ (js_past j hj)
theorem js_S_past {j : Nat} (hj : j < 40) : js_S (35 + 3 * j) := Or.inr (Or.inl (by omega))
theorem jv_2 {k : Nat} {v : Int32} (h1 : k = 14 → 0 ≤ v.toInt ∧ v.toInt < 40) (h2 : k = 15 → 0 ≤ v.toInt ∧ v.toInt ≤ 40) : jv 2 k v := by
  refine ⟨fun g => ?_, fun g => ?_, fun g => ?_, fun _ => ⟨h1, h2⟩, fun g => ?_, fun g => ?_, fun g => ?_⟩ <;> exfalso <;> revert g <;> (try unfold js_S) <;> (try unfold js_U) <;> omega
theorem jk_old (h : jk H) : ∃ o u : Nat, o < 40 ∧ u ≤ 40 ∧ jm_I H 2 14 = nI o ∧ jm_I H 2 15 = nI u := by
  have h1 := ((h.2.2 2 14).2.2.2.1 rfl).1 rfl
  have h2 := ((h.2.2 2 15).2.2.2.1 rfl).2 rfl
  obtain ⟨o, ho, e1⟩ := ji_nn (k := 40) h1.1 (by omega)
  obtain ⟨u, hu, e2⟩ := ji_nn (k := 41) h2.1 (by omega)
  exact ⟨o, u, ho, by omega, e1, e2⟩
theorem z94 (hK : jK H0 H) : jz (jK H0) jz_0 (fun Q => jm_c S 94 [.ref 2] H Q) := by
  -- from 30 on: there is room
  have h30 : ∀ (G : jm_H) (o u : Nat), jK H0 G → o < 40 → u < 40 → jm_I G 2 14 = nI o → jm_I G 2 15 = nI u → jz (jK H0) jz_0 (fun Q => jm_w S 3 94 30 [.ref 2] [] G Q) := by
    intro G o u hG ho hu e1 e2
    have st := hG.1.1
    have r8 := st_r2_8 st
    have hj : (o + u) % 40 < 40 := Nat.mod_lt _ (by decide)
    have rp := st_past hj st
    refine jz_eq (fun _ => u94_30 (st_t2 st) (by rw [r8]; decide)) ?_
    rw [e1, e2, r8, nI_addN]
    refine jz_eq (fun _ => z95 (by omega)) ?_
    simp only [Option.toList_some, List.cons_append, List.nil_append]
    have c := nI_cl (k := (o + u) % 40) (by omega)
    obtain ⟨⟨t1, _⟩, _⟩ := js_S_at (js_S_past hj) st
    refine jz_eq (fun _ => u94_48 (by rw [st_l34 st]; exact nI_inK hj (by decide)) (Or.inl (st_t34 st)) (by rw [c, rp]; omega) (st_t2 st) (by rw [st_r2_7 st]; decide) (by rw [c, rp]; exact t1)) ?_
    rw [c, rp, st_r2_7 st]
    refine jz_call (z96 (S := S) (js_S_past hj) js_S_31 ⟨hG, e1, e2⟩) (fun v G1 hG1 hv => ?_)
    rw [hv]
    have st1 := hG1.1.1.1
    refine jz_eq (fun _ => u94_56 (st_t2 st1)) ?_
    rw [hG1.2.2, nI_succK]
    exact jz_end (jK_pI hG1.1 (by decide) (jv_2 (fun h => absurd h (by decide)) (fun _ => by rw [nI_toInt (by omega)]; omega))) rfl
  obtain ⟨o, u, ho, hu, e1, e2⟩ := jk_old hK.1
  have st := hK.1.1
  refine jz_eq (fun _ => en94.trans (u94_0 (st_t2 st))) ?_
  rw [e2]
  refine jz_if (fun g => ?_) (fun g => ?_)
  · have := (nI_ltI (b := 40) (by omega) (by decide)).mp g
    exact h30 H o u hK ho this e1 e2
  · refine jz_eq (fun _ => u94_9 (st_t2 st)) ?_
    rw [e1, show nI o + (1 : Int32) = nI (o + 1) from nI_succK o]
    refine jz_eq (fun _ => z95 (by omega)) ?_
    simp only [Option.toList_some, List.cons_append, List.nil_append]
    have hm : (o + 1) % 40 < 40 := Nat.mod_lt _ (by decide)
    refine jz_eq (fun _ => u94_21 (st_t2 st) (st_t2 st)) ?_
    have k1 := jK_pI (r := 2) (k := 14) (v := nI ((o + 1) % 40)) hK (by decide) (jv_2 (fun _ => by rw [nI_toInt (by omega)]; omega) (fun h => absurd h (by decide)))
    have k2 := jK_pI (r := 2) (k := 15) (v := (39 : Int32)) k1 (by decide) (jv_2 (fun h => absurd h (by decide)) (fun _ => by decide))
    exact h30 _ ((o + 1) % 40) 39 k2 hm (by decide) (by rw [jm_I_pI, if_neg (by decide), jm_I_pI, if_pos ⟨rfl, rfl⟩]) (by rw [jm_I_pI, if_pos ⟨rfl, rfl⟩]; rfl)
end STATE
