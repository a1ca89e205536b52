set_option maxRecDepth 20000
/-! hold: what it answers, by its argument alone -/
section HOLD
variable {S : Option (Nat × (Nat → Int32))} {H0 : jm_H}
theorem y104 {x1 : Int32} {G : jm_H} (hx : 0 ≤ x1.toInt ∧ x1.toInt ≤ 2) (hG : jK H0 G) : jz (jK H0) (fun v => v = some (.int 1)) (fun Q => jm_c S 104 [.ref 2, .int x1] G Q) := by
  have st := hG.1.1
  have r9 := st_r2_9 st
  refine jz_eq (fun _ => en104.trans u104_0) (jz_if (fun g => absurd (Int32.lt_iff_toInt_lt.mp g) (by rw [i32_0]; omega)) (fun c1 => ?_))
  refine jz_eq (fun _ => u104_4 (st_t2 st) (by rw [r9]; decide) (by rw [r9]; decide) (by rw [r9, st_t155 st]; decide)) ?_
  rw [r9, st_l155 st]
  refine jz_if (fun c2 => ?_) (fun g => absurd (Int32.lt_iff_toInt_lt.mpr (by rw [show (Int32.ofNat 3).toInt = 3 from by decide]; omega)) g)
  obtain ⟨s, hs, rfl⟩ := ji_nn (k := 3) (ti_lt0 c1) (ti_lt (n := 3) (by decide) c2)
  have cl := nI_cl (k := s) (by omega)
  have hin : ∀ {G : jm_H}, jm_st G → ¬ (nI s < 0 ∨ jm_ln G 155 ≤ (nI s).toNatClampNeg) := fun st => by rw [st_l155 st]; exact nI_inK hs (by decide)
  obtain ⟨q1, q2, q3, q4⟩ := sl_at hs st
  have r7 := st_r2_7 st
  refine jz_eq (fun _ => u104_15 (st_t2 st) (by rw [r9]; decide) (by rw [r9]; exact hin st) (by rw [r9]; exact Or.inr (st_t155 st)) (by rw [r9, cl, q2]; omega) (by rw [r9, cl, q2]; exact q1) (by rw [r9, cl, q2, q3]; omega) (by rw [r7]; decide) (by rw [r9, cl, q2, q3]; exact (js_S_at (sl_js hs) st).1.1)) ?_
  rw [r9, cl, q2, q3, r7]
  refine jz_call (z96j (sl_js hs) js_S_31 hG) (fun v G hG hv => ?_)
  obtain rfl := hv
  have st := hG.1.1
  have r9 := st_r2_9 st
  have r0 := st_r2_0 st
  obtain ⟨q1, q2, q3, q4⟩ := sl_at hs st
  refine jz_eq (fun _ => u104_31 (st_t2 st) (by rw [r9]; decide) (by rw [r9]; exact hin st) (by rw [r9]; exact Or.inr (st_t155 st)) (by rw [r9, cl, q2]; omega) (by rw [r9, cl, q2]; exact q1) (by rw [r9, cl, q2, q4]; omega) (by rw [r0]; decide) (by rw [r9, cl, q2, q4]; exact (js_t_at (sl_jt hs) st).1)) ?_
  rw [r9, cl, q2, q4, r0]
  refine jz_call (z105 (sl_jt hs) js_t4 hG) (fun v G hG hv => ?_)
  obtain rfl := hv
  have st := hG.1.1
  have r9 := st_r2_9 st
  obtain ⟨q1, q2, q3, q4⟩ := sl_at hs st
  refine jz_eq (fun _ => u104_47 (st_t2 st) (by rw [r9]; decide) (by rw [r9]; exact hin st) (by rw [r9]; exact Or.inr (st_t155 st)) (by rw [r9, cl, q2]; omega) (by rw [r9, cl, q2]; exact q1)) ?_
  rw [r9, cl, q2]
  exact jz_end (jK_pI hG (by omega) (jv_free (sl_no hs))) rfl
theorem n104 {x1 : Int32} {G : jm_H} (hx : ¬ (0 ≤ x1.toInt ∧ x1.toInt ≤ 2)) (hG : jK H0 G) : jz (jK H0) (fun v => v = some (.int 0)) (fun Q => jm_c S 104 [.ref 2, .int x1] G Q) := by
  have st := hG.1.1
  have r9 := st_r2_9 st
  have h13 : jz (jK H0) (fun v => v = some (.int 0)) (fun Q => jm_w S 3 104 13 [.ref 2, .int x1] [] G Q) := jz_eq (fun _ => u104_13) (jz_end hG rfl)
  refine jz_eq (fun _ => en104.trans u104_0) (jz_if (fun _ => h13) (fun c1 => ?_))
  refine jz_eq (fun _ => u104_4 (st_t2 st) (by rw [r9]; decide) (by rw [r9]; decide) (by rw [r9, st_t155 st]; decide)) ?_
  rw [r9, st_l155 st]
  refine jz_if (fun c2 => ?_) (fun _ => h13)
  have h1 := ti_lt0 c1
  have h2 := ti_lt (n := 3) (by decide) c2
  exact absurd ⟨h1, by omega⟩ hx
variable {c : Nat}
theorem m214 {s : Nat} {G0 : jm_H} (hs : s < 3) (h : jPH c H0 G0) : ∀ (d i : Nat) {G : jm_H}, i + d = 20 → cpy G0 203 (20 * s) 188 0 i G → jz (jPH c H0) (fun v => v = some (.int 1)) (fun Q => jm_w S 2 214 13 [.ref 180, .int (nI s), .int (nI i)] [] G Q)
  | 0, i, G, hd, hG => by
    obtain rfl : i = 20 := by omega
    have st := jf_fr_st hG.1 (jP_st h.1)
    have r42 := st_r180_42 st
    refine jz_eq (fun _ => u214_13) (jz_if (fun _ => ?_) (fun c => absurd (by decide) c))
    refine jz_eq (fun _ => u214_42 (st_t180 st) (by rw [r42]; decide) (by rw [r42, st_l204 st]; exact nI_inK hs (by decide)) (by rw [r42]; exact st_t204 st)) ?_
    rw [r42, nI_cl (by omega)]
    have eI : ∀ r, r ≠ 203 → r ≠ 204 → jm_I (jm_pI G 204 s 1) r = jm_I G0 r := fun r h1 h2 => by
      rw [← (hG.1.2.2.2.2 r h1).1]
      funext k
      rw [jm_I_pI, if_neg (by omega)]
    obtain ⟨l, ⟨st0, ⟨n, hn, e2⟩, hb, ⟨ee, u, u1, u2, u3, u4, u5⟩, hss, hl, e25, hp⟩, N, hN, eN, hr⟩ := h.1
    refine jz_end ⟨⟨l, ⟨jf_fr_st (P := fun _ => True) (jf_fr_pI trivial) st, ⟨n, hn, by rw [eI _ (by decide) (by decide)]; exact e2⟩, bnk_same (Nat.le_refl _) hb (eI 188 (by decide) (by decide)), ⟨ee, u, u1, u2, by rw [eI _ (by decide) (by decide)]; exact u3, by rw [eI _ (by decide) (by decide)]; exact u4, fun j hj => bnk_same (Nat.le_refl _) (u5 j hj) (eI 202 (by decide) (by decide))⟩, fun s' hs' => ?_, hl, by rw [eI _ (by decide) (by decide)]; exact e25, prg_same hp (eI 189 (by decide) (by decide)) (eI 190 (by decide) (by decide)) (eI 191 (by decide) (by decide))⟩, N, hN, by rw [eI _ (by decide) (by decide)]; exact eN, fun j hj => by rw [eI 193 (by decide) (by decide)]; exact hr j hj⟩, jH_pI (jf_fr_trans h.2 (jf_fr_mono hG.1 (fun r hr => by omega))) (by decide)⟩ rfl
    by_cases g : s' = s
    · subst g
      refine Or.inr (bnk_cp (Nat.le_refl _) hb (fun k hk => ?_))
      rw [jm_I_pI, if_neg (by omega)]
      exact hG.2.1 k hk
    · rcases hss s' hs' with q | q
      · refine Or.inl ?_
        rw [jm_I_pI, if_neg (fun q => g q.2), (hG.1.2.2.2.2 204 (by decide)).1]
        exact q
      · refine Or.inr (bnk_cp (Nat.le_refl _) q (fun k hk => ?_))
        rw [jm_I_pI, if_neg (by omega)]
        exact hG.2.2 _ (by omega)
  | d + 1, i, G, hd, hG => by
    have st := jf_fr_st hG.1 (jP_st h.1)
    have r41 := st_r180_41 st
    have r17 := st_r180_17 st
    refine jz_eq (fun _ => u214_13) (jz_if (fun g => ?_) (fun _ => ?_))
    · have := (nI_leI (a := 20) (by decide) (by omega)).mp g
      omega
    refine jz_eq (fun _ => u214_19 (st_t180 st) (by rw [r41]; decide) (by rw [r17]; decide) (by rw [r17, st_l188 st]; exact nI_inK (by omega) (by decide)) (by rw [r17]; decide) (by rw [r17]; exact st_t188 st) (by rw [nI_20, nI_addN, r41, st_l203 st]; exact nI_inK (by omega) (by decide)) (by rw [r41]; exact st_t203 st)) ?_
    rw [r41, r17, nI_20, nI_addN, nI_cl (k := 20 * s + i) (by omega), nI_cl (k := i) (by omega), nI_succK]
    have := cpy_s (by decide) hG
    rw [Nat.zero_add] at this
    exact m214 hs h d (i + 1) (by omega) this
theorem y214 {x1 : Int32} {G : jm_H} (hx : 0 ≤ x1.toInt ∧ x1.toInt ≤ 2) (h : jPH c H0 G) : jz (jPH c H0) (fun v => v = some (.int 1)) (fun Q => jm_c S 214 [.ref 180, .int x1] G Q) := by
  refine jz_eq (fun _ => en214.trans (u214_0.trans (c176 _ _ _))) ?_
  rw [if_pos (show (0 : Int32).toInt ≤ x1.toInt ∧ x1.toInt ≤ (2 : Int32).toInt from hx)]
  obtain ⟨s, hs, rfl⟩ := ji_nn (k := 3) (x := x1) hx.1 (by omega)
  refine jz_eq (fun _ => u214_6) (jz_if (fun _ => ?_) (fun c => absurd (show ¬ (1 : Int32) = 0 by decide) c))
  exact jz_eq (fun _ => u214_11) (m214 (S := S) hs h 20 0 (by decide) cpy_0)
theorem n214 {x1 : Int32} {G : jm_H} (hx : ¬ (0 ≤ x1.toInt ∧ x1.toInt ≤ 2)) (h : jPH c H0 G) : jz (jPH c H0) (fun v => v = some (.int 0)) (fun Q => jm_c S 214 [.ref 180, .int x1] G Q) := by
  refine jz_eq (fun _ => en214.trans (u214_0.trans (c176 _ _ _))) ?_
  rw [if_neg (show ¬ ((0 : Int32).toInt ≤ x1.toInt ∧ x1.toInt ≤ (2 : Int32).toInt) from hx)]
  exact jz_eq (fun _ => u214_6) (jz_if (fun c => absurd rfl c) (fun _ => jz_eq (fun _ => u214_9) (jz_end h rfl)))
theorem hold_both (x1 : Int32) : ∃ ans : Int32, (∀ {H0 G : jm_H}, jK H0 G → jz (jK H0) (fun v => v = some (.int ans)) (fun Q => jm_c S 104 [.ref 2, .int x1] G Q)) ∧ ∀ {c : Nat} {H0 G : jm_H}, jPH c H0 G → jz (jPH c H0) (fun v => v = some (.int ans)) (fun Q => jm_c S 214 [.ref 180, .int x1] G Q) := by
  by_cases hx : 0 ≤ x1.toInt ∧ x1.toInt ≤ 2
  · exact ⟨1, y104 hx, y214 hx⟩
  · exact ⟨0, n104 hx, n214 hx⟩
end HOLD
