set_option maxRecDepth 20000
/-! the law: from its entry to its loop, the switch, and what each case asks for -/
/-- what is wanted at the end -/
def jl_Q : Option Value → jm_H → Prop := fun r H' => r = some (.int 1) ∧ jm_n H' ≤ 600000 ∧ jm_s H' ≤ 7302249
theorem jm_c_none {S : Option (Nat × (Nat → Int32))} {mi : Nat} {as : List Value} {H : jm_H} {Q : Option Value → jm_H → Prop} (h : jm_c none mi as H Q) : jm_c S mi as H Q := jm_w_none h
theorem jm_c_mono {S : Option (Nat × (Nat → Int32))} {mi : Nat} {as : List Value} {H : jm_H} {Q Q' : Option Value → jm_H → Prop} (h : jm_c S mi as H Q) (hq : ∀ r H', Q r H' → Q' r H') : jm_c S mi as H Q' := jm_w_mono h hq
/-- what the rest of the law needs of a heap -/
def jl_lo (H : jm_H) : Prop := jm_tg H 180 = 13 ∧ jm_n H = 207 ∧ jm_s H ≤ 100000
theorem jl_lo_st {H : jm_H} (h : jm_st H) : jl_lo H := ⟨st_t180 h, h.2.2.1, h.2.2.2⟩
/-- both answer the same to these, one behind the other -/
def jl_ok (ci mi : Nat) (as : List Value) : Prop := ∃ x : Int32, jm_c none ci (.ref 2 :: as) jm_G (fun v G => v = some (.int x) ∧ jl_lo G ∧ jm_c none mi (.ref 180 :: as) G (fun v' G' => v' = some (.int x) ∧ jl_lo G'))
def jl_okL (ci mi : Nat) (as : List Value) : Prop := ∃ x : Int64, jm_c none ci (.ref 2 :: as) jm_G (fun v G => v = some (.long x) ∧ jl_lo G ∧ jm_c none mi (.ref 180 :: as) G (fun v' G' => v' = some (.long x) ∧ jl_lo G'))
theorem jl_pre {L : Nat} {xs : Nat → Int32} {Q : Option Value → jm_H → Prop} (h : jm_w (some (L, xs)) 49 255 18 [.ref 1, .ref 2, .ref 180, .int 0] [] jm_G Q) : jm_c (some (L, xs)) 255 [.ref 1] jm_H0 Q := by
  have h1 := jm_ck1
  have h2 := jm_ck2
  rcases e1 : jm_Ra with _ | x
  · rw [e1] at h1; cases h1
  have eb : jm_Hb = jm_mk x.2 13 0 62 := by unfold jm_Hb; rw [e1]
  rcases e2 : jm_Rb with _ | y
  · rw [e2] at h2; cases h2
  have eg : jm_G = y.2 := by unfold jm_G; rw [e2]
  rw [e1] at h1
  rw [e2] at h2
  simp only [Option.any_some, Bool.and_eq_true, decide_eq_true_eq] at h1 h2
  have c1 : jm_ev (some (L, xs)) 2500 (jm_rk 0 [.ref 2]) 0 0 (jm_en 0 [.ref 2]) [] jm_Ha = some x := jm_mono (Or.inl rfl) 2500 2500 _ _ _ _ _ _ _ (Nat.le_refl _) e1
  have c2 : jm_ev (some (L, xs)) 2500 (jm_rk 154 [.ref 180]) 154 0 (jm_en 154 [.ref 180]) [] jm_Hb = some y := jm_mono (Or.inl rfl) 2500 2500 _ _ _ _ _ _ _ (Nat.le_refl _) e2
  rw [en255, js3 (ins := .new 7) (e := (6, 11, 17, 0)) (st' := [.ref 2]) (H' := jm_Ha) (pc' := 3) rfl rfl rfl rfl rfl,
    js0 (ins := .dup) (st' := [.ref 2, .ref 2]) (pc' := 4) rfl rfl rfl rfl,
    jscall (ins := .invokespecial 9) (e := (3, 0, 0, 0)) (as := [.ref 2]) (q := [.ref 2]) (pc' := 7) (mj := 0) rfl rfl rfl rfl rfl (Nat.le_of_ble_eq_true rfl) rfl rfl]
  refine ⟨2500, x.1, x.2, c1, ?_⟩
  rw [h1.1]
  show jm_w (some (L, xs)) 49 255 7 [.ref 1, .null, .null, .null] [.ref 2] x.2 Q
  rw [js1 (ins := .astore_n 1) (ls' := [.ref 1, .ref 2, .null, .null]) (st' := []) (pc' := 8) rfl rfl rfl rfl,
    js3 (ins := .new 10) (e := (6, 12, 62, 0)) (st' := [.ref 180]) (H' := jm_Hb) (pc' := 11) rfl rfl rfl (by show some ([Value.ref (jm_n x.2 + 2)], _) = _; rw [h1.2, eb]; try rfl) rfl,
    js0 (ins := .dup) (st' := [.ref 180, .ref 180]) (pc' := 12) rfl rfl rfl rfl,
    jscall (ins := .invokespecial 12) (e := (3, 154, 0, 0)) (as := [.ref 180]) (q := [.ref 180]) (pc' := 15) (mj := 154) rfl rfl rfl rfl rfl (Nat.le_of_ble_eq_true rfl) rfl rfl]
  refine ⟨2500, y.1, y.2, c2, ?_⟩
  rw [h2.1, ← eg]
  show jm_w (some (L, xs)) 49 255 15 [.ref 1, .ref 2, .null, .null] [.ref 180] jm_G Q
  rw [u255_15]
  exact h
theorem jl_endQ {H : jm_H} (h : jl_lo H) : jl_Q (some (.int 1)) H := ⟨rfl, by rw [h.2.1]; decide, by have := h.2.2; omega⟩
