set_option maxRecDepth 20000
/-! runs of the kernel in the midst of a call; what a call leaves alone; feeding, resizing, the store's row -/
def jl_rv (F mi : Nat) (as : List Value) (H : jm_H) : jm_H := match jm_ev none F (jm_rk mi as) mi 0 (jm_en mi as) [] H with
  | some x => x.2
  | none => jm_H0
def jl_rn (F mi : Nat) (as : List Value) (H : jm_H) : Bool := match jm_ev none F (jm_rk mi as) mi 0 (jm_en mi as) [] H with
  | some (none, _) => true
  | _ => false
theorem jl_rv_c {F mi : Nat} {as : List Value} {H : jm_H} {Q : Option Value → jm_H → Prop} (h : jl_rn F mi as H = true) (hq : Q none (jl_rv F mi as H)) : jm_c none mi as H Q := by
  unfold jl_rn at h
  unfold jl_rv at hq
  split at h
  · next G e => rw [e] at hq; exact ⟨F, none, G, e, hq⟩
  · cases h
/-- H' is H but for the ints and longs of such objects -/
def jf_fr (P : Nat → Prop) (H H' : jm_H) : Prop := H'.1 = H.1 ∧ jm_tg H' = jm_tg H ∧ jm_ln H' = jm_ln H ∧ jm_R H' = jm_R H ∧ ∀ r, ¬ P r → jm_I H' r = jm_I H r ∧ jm_L H' r = jm_L H r
theorem jf_fr_refl {P : Nat → Prop} (H : jm_H) : jf_fr P H H := ⟨rfl, rfl, rfl, rfl, fun _ _ => ⟨rfl, rfl⟩⟩
theorem jf_fr_trans {P : Nat → Prop} {H H' H'' : jm_H} (h : jf_fr P H H') (h' : jf_fr P H' H'') : jf_fr P H H'' := ⟨h'.1.trans h.1, h'.2.1.trans h.2.1, h'.2.2.1.trans h.2.2.1, h'.2.2.2.1.trans h.2.2.2.1, fun r hr => ⟨(h'.2.2.2.2 r hr).1.trans (h.2.2.2.2 r hr).1, (h'.2.2.2.2 r hr).2.trans (h.2.2.2.2 r hr).2⟩⟩
theorem jf_fr_mono {P P' : Nat → Prop} {H H' : jm_H} (h : jf_fr P H H') (hp : ∀ r, P r → P' r) : jf_fr P' H H' := ⟨h.1, h.2.1, h.2.2.1, h.2.2.2.1, fun r hr => h.2.2.2.2 r (fun g => hr (hp r g))⟩
theorem jf_fr_pI {P : Nat → Prop} {H : jm_H} {a k : Nat} {v : Int32} (ha : P a) : jf_fr P H (jm_pI H a k v) := ⟨rfl, rfl, rfl, rfl, fun r hr => ⟨by
  funext j
  rw [jm_I_pI, if_neg (show ¬ (r = a ∧ j = k) from fun h => hr (h.1 ▸ ha))], rfl⟩⟩
theorem jf_fr_pL {P : Nat → Prop} {H : jm_H} {a k : Nat} {v : Int64} (ha : P a) : jf_fr P H (jm_pL H a k v) := ⟨rfl, rfl, rfl, rfl, fun r hr => ⟨rfl, by
  funext j
  rw [jm_L_pL, if_neg (show ¬ (r = a ∧ j = k) from fun h => hr (h.1 ▸ ha))]⟩⟩
theorem jf_fr_st {P : Nat → Prop} {H H' : jm_H} (h : jf_fr P H H') (hs : jm_st H) : jm_st H' := by
  obtain ⟨h1, h2, h3, h4, h5⟩ := h
  refine ⟨fun q hq => ?_, fun q hq => ?_, ?_, ?_⟩
  · rw [h2, h3]; exact hs.1 q hq
  · rw [h4]; exact hs.2.1 q hq
  · have := hs.2.2.1; unfold jm_n at this ⊢; rw [h1]; exact this
  · have := hs.2.2.2; unfold jm_s at this ⊢; rw [h1]; exact this
section FEED
variable {S : Option (Nat × (Nat → Int32))}
def jf_tp (H : jm_H) (k : Nat) : Prop := jm_st H ∧ jm_I H 4 1 = nI k
def jf_tm (H : jm_H) (k : Nat) : Prop := jm_st H ∧ jm_I H 180 2 = nI k
theorem nI_cl {k : Nat} (hk : k < 2147483648) : (nI k).toNatClampNeg = k := by rw [jI_n, jI_c ⟨by omega, by omega⟩ (by omega), Int.toNat_natCast]
theorem nI_geK {k : Nat} (hk : k < 2147483648) : ¬ nI k < 0 := by
  rw [Int32.lt_iff_toInt_lt, nI_toInt (by omega), i32_0]
  omega
theorem nI_inK {k n : Nat} (hk : k < n) (hn : n < 2147483648) : ¬ (nI k < 0 ∨ n ≤ (nI k).toNatClampNeg) := by
  rw [nI_cl (by omega)]
  intro h
  rcases h with h | h
  · exact nI_geK (by omega) h
  · omega
theorem s14 {H : jm_H} {k : Nat} (t : jf_tp H k) (hk : k < 2000) {x x2 : Int32} (h : ¬ x2 < 0) : ∃ H1, jf_tp H1 (k + 1) ∧ jf_fr (fun r => r = 4 ∨ r = 5) H H1 ∧ ∀ Q, jm_w S 1 14 3 [.ref 4, .int x, .int x2] [] H Q = jm_w S 1 14 3 [.ref 4, .int x, .int (x2 + (-8))] [] H1 Q := by
  obtain ⟨s, t5⟩ := t
  have e0 := st_r4_0 s
  have ef : jf_fr (fun r => r = 4 ∨ r = 5) H (jm_pI (jm_pI H 5 k (Int8.toInt32 (Int32.toInt8 (Int8.toInt32 (Int32.toInt8 (x >>> (x2 &&& 31))))))) 4 1 (nI k + 1)) := jf_fr_trans (jf_fr_pI (Or.inr rfl)) (jf_fr_pI (Or.inl rfl))
  refine ⟨_, ⟨jf_fr_st ef s, ?_⟩, ef, fun Q => ?_⟩
  · rw [jm_I_pI, if_pos ⟨rfl, rfl⟩, nI_1L, jI_n, jI_n, jI_add, jI_n, Int.natCast_add]
  · rw [u14_3, if_neg h, u14_7 (st_t4 s) (by rw [e0]; decide) (by rw [e0]; decide) (by rw [e0, st_t5 s]; decide), e0, t5, st_l5 s]
    have e2 : ¬ Int32.ofNat 2000 ≤ nI k := by
      rw [Int32.le_iff_toInt_le, nI_toInt (by omega)]
      have : (Int32.ofNat 2000).toInt = 2000 := by decide
      rw [this]
      omega
    rw [if_neg e2, u14_19 (st_t4 s) (by rw [e0]; decide) (by rw [e0, t5, st_l5 s]; exact nI_inK hk (by decide)) (by rw [e0]; exact st_t5 s), u14_42, e0, t5, nI_cl (by omega), jm_I_pI, if_neg (fun h => by have := h.1; omega), t5]
theorem c14 {H : jm_H} {k : Nat} (t : jf_tp H k) (hk : k + 4 ≤ 2000) (x : Int32) : ∃ H1, jf_tp H1 (k + 4) ∧ jf_fr (fun r => r = 4 ∨ r = 5) H H1 ∧ ∀ Q, jm_c S 14 [.ref 4, .int x] H Q = Q none H1 := by
  obtain ⟨H1, t1, f1, q1⟩ := s14 (S := S) t (by omega) (x := x) (x2 := 24) (by decide)
  obtain ⟨H2, t2, f2, q2⟩ := s14 (S := S) t1 (by omega) (x := x) (x2 := 24 + (-8)) (by decide)
  obtain ⟨H3, t3, f3, q3⟩ := s14 (S := S) t2 (by omega) (x := x) (x2 := 24 + (-8) + (-8)) (by decide)
  obtain ⟨H4, t4, f4, q4⟩ := s14 (S := S) t3 (by omega) (x := x) (x2 := 24 + (-8) + (-8) + (-8)) (by decide)
  refine ⟨H4, t4, jf_fr_trans (jf_fr_trans (jf_fr_trans f1 f2) f3) f4, fun Q => ?_⟩
  rw [en14, u14_0, q1, q2, q3, q4, u14_3, if_pos (by decide), u14_48]
theorem s158 {H : jm_H} {k : Nat} (t : jf_tm H k) (hk : k < 2000) {x x2 : Int32} (h : ¬ x2 < 0) : ∃ H1, jf_tm H1 (k + 1) ∧ jf_fr (fun r => r = 180 ∨ r = 181) H H1 ∧ ∀ Q, jm_w S 1 158 3 [.ref 180, .int x, .int x2] [] H Q = jm_w S 1 158 3 [.ref 180, .int x, .int (x2 + (-8))] [] H1 Q := by
  obtain ⟨s, t5⟩ := t
  have e0 := st_r180_1 s
  have ef : jf_fr (fun r => r = 180 ∨ r = 181) H (jm_pI (jm_pI H 181 k (Int8.toInt32 (Int32.toInt8 (Int8.toInt32 (Int32.toInt8 (x >>> (x2 &&& 31))))))) 180 2 (nI k + 1)) := jf_fr_trans (jf_fr_pI (Or.inr rfl)) (jf_fr_pI (Or.inl rfl))
  refine ⟨_, ⟨jf_fr_st ef s, ?_⟩, ef, fun Q => ?_⟩
  · rw [jm_I_pI, if_pos ⟨rfl, rfl⟩, nI_1L, jI_n, jI_n, jI_add, jI_n, Int.natCast_add]
  · rw [u158_3, if_neg h, u158_7 (st_t180 s) (by rw [e0]; decide) (by rw [e0, t5, st_l181 s]; exact nI_inK hk (by decide)) (by rw [e0]; exact st_t181 s), e0, t5, nI_cl (by omega), jm_I_pI, if_neg (fun h => by have := h.1; omega), t5]
theorem c158 {H : jm_H} {k : Nat} (t : jf_tm H k) (hk : k + 4 ≤ 2000) (x : Int32) : ∃ H1, jf_tm H1 (k + 4) ∧ jf_fr (fun r => r = 180 ∨ r = 181) H H1 ∧ ∀ Q, jm_c S 158 [.ref 180, .int x] H Q = Q none H1 := by
  obtain ⟨H1, t1, f1, q1⟩ := s158 (S := S) t (by omega) (x := x) (x2 := 24) (by decide)
  obtain ⟨H2, t2, f2, q2⟩ := s158 (S := S) t1 (by omega) (x := x) (x2 := 24 + (-8)) (by decide)
  obtain ⟨H3, t3, f3, q3⟩ := s158 (S := S) t2 (by omega) (x := x) (x2 := 24 + (-8) + (-8)) (by decide)
  obtain ⟨H4, t4, f4, q4⟩ := s158 (S := S) t3 (by omega) (x := x) (x2 := 24 + (-8) + (-8) + (-8)) (by decide)
  refine ⟨H4, t4, jf_fr_trans (jf_fr_trans (jf_fr_trans f1 f2) f3) f4, fun Q => ?_⟩
  rw [en158, u158_0, q1, q2, q3, q4, u158_3, if_pos (by decide), u158_36]
end FEED
