set_option maxRecDepth 20000
/-! the law: from its entry to its loop, the switch, and what each case asks for -/
/-- what is wanted at the end -/
def jl_Q : Option Value → jm_H → Prop := fun r H' => r = some (.int 1) ∧ jm_n H' ≤ 600000 ∧ jm_s H' ≤ 7302249
theorem jm_c_none {S : Option (Nat × (Nat → Int32))} {mi : Nat} {as : List Value} {H : jm_H} {Q : Option Value → jm_H → Prop} (h : jm_c none mi as H Q) : jm_c S mi as H Q := jm_w_none h
theorem jm_c_mono {S : Option (Nat × (Nat → Int32))} {mi : Nat} {as : List Value} {H : jm_H} {Q Q' : Option Value → jm_H → Prop} (h : jm_c S mi as H Q) (hq : ∀ r H', Q r H' → Q' r H') : jm_c S mi as H Q' := jm_w_mono h hq
/-- what the rest of the law needs of a heap -/
def jl_lo (H : jm_H) : Prop := jm_tg H 180 = 13 ∧ jm_n H = 207 ∧ jm_s H ≤ 100000
theorem jl_lo_st {H : jm_H} (h : jm_st H) : jl_lo H := ⟨st_t180 h, h.2.2.1, h.2.2.2⟩
/-- both answer the same to these, one behind the other -/
def jl_ok (ci mi : Nat) (as : List Value) : Prop := ∃ x : Int32, jm_c none ci (.ref 2 :: as) jm_G (fun v G => v = some (.int x) ∧ jl_lo G ∧ jm_c none mi (.ref 180 :: as) G (fun v' G' => v' = some (.int x) ∧ jl_lo G'))
def jl_okL (ci mi : Nat) (as : List Value) : Prop := ∃ x : Int64, jm_c none ci (.ref 2 :: as) jm_G (fun v G => v = some (.long x) ∧ jl_lo G ∧ jm_c none mi (.ref 180 :: as) G (fun v' G' => v' = some (.long x) ∧ jl_lo G'))
theorem jl_pre {L : Nat} {xs : Nat → Int32} {Q : Option Value → jm_H → Prop} (h : jm_w (some (L, xs)) 49 255 18 [.ref 1, .ref 2, .ref 180, .int 0] [] jm_G Q) : jm_c (some (L, xs)) 255 [.ref 1] jm_H0 Q := by
  have h1 := jm_ck1
  have h2 := jm_ck2
  rcases e1 : jm_Ra with _ | x
  · rw [e1] at h1; cases h1
  have eb : jm_Hb = jm_mk x.2 13 0 62 := by unfold jm_Hb; rw [e1]
  rcases e2 : jm_Rb with _ | y
  · rw [e2] at h2; cases h2
  have eg : jm_G = y.2 := by unfold jm_G; rw [e2]
  rw [e1] at h1
  rw [e2] at h2
  simp only [Option.any_some, Bool.and_eq_true, decide_eq_true_eq] at h1 h2
  have c1 : jm_ev (some (L, xs)) 2500 (jm_rk 0 [.ref 2]) 0 0 (jm_en 0 [.ref 2]) [] jm_Ha = some x := jm_mono (Or.inl rfl) 2500 2500 _ _ _ _ _ _ _ (Nat.le_refl _) e1
  have c2 : jm_ev (some (L, xs)) 2500 (jm_rk 154 [.ref 180]) 154 0 (jm_en 154 [.ref 180]) [] jm_Hb = some y := jm_mono (Or.inl rfl) 2500 2500 _ _ _ _ _ _ _ (Nat.le_refl _) e2
  rw [en255, js3 (ins := .new 7) (e := (6, 11, 17, 0)) (st' := [.ref 2]) (H' := jm_Ha) (pc' := 3) rfl rfl rfl rfl rfl,
    js0 (ins := .dup) (st' := [.ref 2, .ref 2]) (pc' := 4) rfl rfl rfl rfl,
    jscall (ins := .invokespecial 9) (e := (3, 0, 0, 0)) (as := [.ref 2]) (q := [.ref 2]) (pc' := 7) (mj := 0) rfl rfl rfl rfl rfl (Nat.le_of_ble_eq_true rfl) rfl rfl]
  refine ⟨2500, x.1, x.2, c1, ?_⟩
  rw [h1.1]
  show jm_w (some (L, xs)) 49 255 7 [.ref 1, .null, .null, .null] [.ref 2] x.2 Q
  rw [js1 (ins := .astore_n 1) (ls' := [.ref 1, .ref 2, .null, .null]) (st' := []) (pc' := 8) rfl rfl rfl rfl,
    js3 (ins := .new 10) (e := (6, 12, 62, 0)) (st' := [.ref 180]) (H' := jm_Hb) (pc' := 11) rfl rfl rfl (by show some ([Value.ref (jm_n x.2 + 2)], _) = _; rw [h1.2, eb]; try rfl) rfl,
    js0 (ins := .dup) (st' := [.ref 180, .ref 180]) (pc' := 12) rfl rfl rfl rfl,
    jscall (ins := .invokespecial 12) (e := (3, 154, 0, 0)) (as := [.ref 180]) (q := [.ref 180]) (pc' := 15) (mj := 154) rfl rfl rfl rfl rfl (Nat.le_of_ble_eq_true rfl) rfl rfl]
  refine ⟨2500, y.1, y.2, c2, ?_⟩
  rw [h2.1, ← eg]
  show jm_w (some (L, xs)) 49 255 15 [.ref 1, .ref 2, .null, .null] [.ref 180] jm_G Q
  rw [u255_15]
  exact h
theorem jl_endQ {H : jm_H} (h : jl_lo H) : jl_Q (some (.int 1)) H := ⟨rfl, by rw [h.2.1]; decide, by have := h.2.2; omega⟩
theorem jl_end {xs : Nat → Int32} {H : jm_H} (h : jl_lo H) : jm_w (some (6, xs)) 49 255 1331 [.ref 1, .ref 2, .ref 180, .int 0] [] H jl_Q := by
  rw [u255_1331, u255_18, if_pos (by decide), u255_1337]
  exact jl_endQ h
theorem jl_short {L : Nat} (hL : L < 6) {xs : Nat → Int32} : jm_w (some (L, xs)) 49 255 18 [.ref 1, .ref 2, .ref 180, .int 0] [] jm_G jl_Q := by
  have h : (Int32.ofNat L) - (6 : Int32) < 0 := by
    match L, hL with
    | 0, _ => decide
    | 1, _ => decide
    | 2, _ => decide
    | 3, _ => decide
    | 4, _ => decide
    | 5, _ => decide
  rw [u255_18, if_pos h, u255_1337]
  exact jl_endQ (jl_lo_st jm_G_st)
theorem jl_case_0 {xs : Nat → Int32} (h : jl_ok 13 157 [.int (xs 1), .int (xs 2), .int (xs 3), .int (xs 4), .int (xs 5)]) : jm_w (some (6, xs)) 49 255 160 [.ref 1, .ref 2, .ref 180, .int 0] [] jm_G jl_Q := by
  obtain ⟨x, h⟩ := h
  rw [u255_160 (by decide) (by decide) (by decide) (by decide) (by decide) (st_t2 jm_G_st)]
  show jm_c (some (6, xs)) 13 [.ref 2, .int (xs 1), .int (xs 2), .int (xs 3), .int (xs 4), .int (xs 5)] jm_G _
  refine jm_c_mono (jm_c_none h) ?_
  rintro v G ⟨rfl, hG, h⟩
  show jm_w (some (6, xs)) 49 255 189 [.ref 1, .ref 2, .ref 180, .int 0] [.int x] G jl_Q
  rw [u255_189 (by decide) (by decide) (by decide) (by decide) (by decide) hG.1]
  show jm_c (some (6, xs)) 157 [.ref 180, .int (xs 1), .int (xs 2), .int (xs 3), .int (xs 4), .int (xs 5)] G _
  refine jm_c_mono (jm_c_none h) ?_
  rintro v G' ⟨rfl, hG'⟩
  show jm_w (some (6, xs)) 49 255 218 [.ref 1, .ref 2, .ref 180, .int 0] [.int x, .int x] G' jl_Q
  rw [u255_218, if_pos rfl]
  exact jl_end hG'
theorem jl_case_1 {xs : Nat → Int32} (h : jl_ok 15 159 [.int (xs 1)]) : jm_w (some (6, xs)) 49 255 223 [.ref 1, .ref 2, .ref 180, .int 0] [] jm_G jl_Q := by
  obtain ⟨x, h⟩ := h
  rw [u255_223 (by decide) (st_t2 jm_G_st)]
  show jm_c (some (6, xs)) 15 [.ref 2, .int (xs 1)] jm_G _
  refine jm_c_mono (jm_c_none h) ?_
  rintro v G ⟨rfl, hG, h⟩
  show jm_w (some (6, xs)) 49 255 232 [.ref 1, .ref 2, .ref 180, .int 0] [.int x] G jl_Q
  rw [u255_232 (by decide) hG.1]
  show jm_c (some (6, xs)) 159 [.ref 180, .int (xs 1)] G _
  refine jm_c_mono (jm_c_none h) ?_
  rintro v G' ⟨rfl, hG'⟩
  show jm_w (some (6, xs)) 49 255 241 [.ref 1, .ref 2, .ref 180, .int 0] [.int x, .int x] G' jl_Q
  rw [u255_241, if_pos rfl]
  exact jl_end hG'
theorem jl_case_2 {xs : Nat → Int32} (h : jl_ok 16 160 []) : jm_w (some (6, xs)) 49 255 246 [.ref 1, .ref 2, .ref 180, .int 0] [] jm_G jl_Q := by
  obtain ⟨x, h⟩ := h
  rw [u255_246  (st_t2 jm_G_st)]
  show jm_c (some (6, xs)) 16 [.ref 2] jm_G _
  refine jm_c_mono (jm_c_none h) ?_
  rintro v G ⟨rfl, hG, h⟩
  show jm_w (some (6, xs)) 49 255 250 [.ref 1, .ref 2, .ref 180, .int 0] [.int x] G jl_Q
  rw [u255_250  hG.1]
  show jm_c (some (6, xs)) 160 [.ref 180] G _
  refine jm_c_mono (jm_c_none h) ?_
  rintro v G' ⟨rfl, hG'⟩
  show jm_w (some (6, xs)) 49 255 254 [.ref 1, .ref 2, .ref 180, .int 0] [.int x, .int x] G' jl_Q
  rw [u255_254, if_pos rfl]
  exact jl_end hG'
theorem jl_case_3 {xs : Nat → Int32} (h : jl_ok 91 211 []) : jm_w (some (6, xs)) 49 255 259 [.ref 1, .ref 2, .ref 180, .int 0] [] jm_G jl_Q := by
  obtain ⟨x, h⟩ := h
  rw [u255_259  (st_t2 jm_G_st)]
  show jm_c (some (6, xs)) 91 [.ref 2] jm_G _
  refine jm_c_mono (jm_c_none h) ?_
  rintro v G ⟨rfl, hG, h⟩
  show jm_w (some (6, xs)) 49 255 263 [.ref 1, .ref 2, .ref 180, .int 0] [.int x] G jl_Q
  rw [u255_263  hG.1]
  show jm_c (some (6, xs)) 211 [.ref 180] G _
  refine jm_c_mono (jm_c_none h) ?_
  rintro v G' ⟨rfl, hG'⟩
  show jm_w (some (6, xs)) 49 255 267 [.ref 1, .ref 2, .ref 180, .int 0] [.int x, .int x] G' jl_Q
  rw [u255_267, if_pos rfl]
  exact jl_end hG'
theorem jl_case_4 {xs : Nat → Int32} (h : jl_ok 92 216 [.int (xs 1), .int (xs 2)]) : jm_w (some (6, xs)) 49 255 272 [.ref 1, .ref 2, .ref 180, .int 0] [] jm_G jl_Q := by
  obtain ⟨x, h⟩ := h
  rw [u255_272 (by decide) (by decide) (st_t2 jm_G_st)]
  show jm_c (some (6, xs)) 92 [.ref 2, .int (xs 1), .int (xs 2)] jm_G _
  refine jm_c_mono (jm_c_none h) ?_
  rintro v G ⟨rfl, hG, h⟩
  show jm_w (some (6, xs)) 49 255 286 [.ref 1, .ref 2, .ref 180, .int 0] [.int x] G jl_Q
  rw [u255_286 (by decide) (by decide) hG.1]
  show jm_c (some (6, xs)) 216 [.ref 180, .int (xs 1), .int (xs 2)] G _
  refine jm_c_mono (jm_c_none h) ?_
  rintro v G' ⟨rfl, hG'⟩
  show jm_w (some (6, xs)) 49 255 300 [.ref 1, .ref 2, .ref 180, .int 0] [.int x, .int x] G' jl_Q
  rw [u255_300, if_pos rfl]
  exact jl_end hG'
theorem jl_case_6 {xs : Nat → Int32} (h : jl_ok 100 222 []) : jm_w (some (6, xs)) 49 255 364 [.ref 1, .ref 2, .ref 180, .int 0] [] jm_G jl_Q := by
  obtain ⟨x, h⟩ := h
  rw [u255_364  (st_t2 jm_G_st)]
  show jm_c (some (6, xs)) 100 [.ref 2] jm_G _
  refine jm_c_mono (jm_c_none h) ?_
  rintro v G ⟨rfl, hG, h⟩
  show jm_w (some (6, xs)) 49 255 368 [.ref 1, .ref 2, .ref 180, .int 0] [.int x] G jl_Q
  rw [u255_368  hG.1]
  show jm_c (some (6, xs)) 222 [.ref 180] G _
  refine jm_c_mono (jm_c_none h) ?_
  rintro v G' ⟨rfl, hG'⟩
  show jm_w (some (6, xs)) 49 255 372 [.ref 1, .ref 2, .ref 180, .int 0] [.int x, .int x] G' jl_Q
  rw [u255_372, if_pos rfl]
  exact jl_end hG'
theorem jl_case_7 {xs : Nat → Int32} (h : jl_ok 102 212 []) : jm_w (some (6, xs)) 49 255 377 [.ref 1, .ref 2, .ref 180, .int 0] [] jm_G jl_Q := by
  obtain ⟨x, h⟩ := h
  rw [u255_377  (st_t2 jm_G_st)]
  show jm_c (some (6, xs)) 102 [.ref 2] jm_G _
  refine jm_c_mono (jm_c_none h) ?_
  rintro v G ⟨rfl, hG, h⟩
  show jm_w (some (6, xs)) 49 255 381 [.ref 1, .ref 2, .ref 180, .int 0] [.int x] G jl_Q
  rw [u255_381  hG.1]
  show jm_c (some (6, xs)) 212 [.ref 180] G _
  refine jm_c_mono (jm_c_none h) ?_
  rintro v G' ⟨rfl, hG'⟩
  show jm_w (some (6, xs)) 49 255 385 [.ref 1, .ref 2, .ref 180, .int 0] [.int x, .int x] G' jl_Q
  rw [u255_385, if_pos rfl]
  exact jl_end hG'
theorem jl_case_8 {xs : Nat → Int32} (h : jl_ok 107 233 [.int (xs 1), .int (xs 2), .int (xs 3), .int (xs 4)]) : jm_w (some (6, xs)) 49 255 390 [.ref 1, .ref 2, .ref 180, .int 0] [] jm_G jl_Q := by
  obtain ⟨x, h⟩ := h
  rw [u255_390 (by decide) (by decide) (by decide) (by decide) (st_t2 jm_G_st)]
  show jm_c (some (6, xs)) 107 [.ref 2, .int (xs 1), .int (xs 2), .int (xs 3), .int (xs 4)] jm_G _
  refine jm_c_mono (jm_c_none h) ?_
  rintro v G ⟨rfl, hG, h⟩
  show jm_w (some (6, xs)) 49 255 414 [.ref 1, .ref 2, .ref 180, .int 0] [.int x] G jl_Q
  rw [u255_414 (by decide) (by decide) (by decide) (by decide) hG.1]
  show jm_c (some (6, xs)) 233 [.ref 180, .int (xs 1), .int (xs 2), .int (xs 3), .int (xs 4)] G _
  refine jm_c_mono (jm_c_none h) ?_
  rintro v G' ⟨rfl, hG'⟩
  show jm_w (some (6, xs)) 49 255 438 [.ref 1, .ref 2, .ref 180, .int 0] [.int x, .int x] G' jl_Q
  rw [u255_438, if_pos rfl]
  exact jl_end hG'
theorem jl_case_9 {xs : Nat → Int32} (h : jl_ok 129 223 [.int (xs 1), .int (xs 2), .int (xs 3), .int (xs 4), .int (xs 5)]) : jm_w (some (6, xs)) 49 255 443 [.ref 1, .ref 2, .ref 180, .int 0] [] jm_G jl_Q := by
  obtain ⟨x, h⟩ := h
  rw [u255_443 (by decide) (by decide) (by decide) (by decide) (by decide) (st_t2 jm_G_st)]
  show jm_c (some (6, xs)) 129 [.ref 2, .int (xs 1), .int (xs 2), .int (xs 3), .int (xs 4), .int (xs 5)] jm_G _
  refine jm_c_mono (jm_c_none h) ?_
  rintro v G ⟨rfl, hG, h⟩
  show jm_w (some (6, xs)) 49 255 472 [.ref 1, .ref 2, .ref 180, .int 0] [.int x] G jl_Q
  rw [u255_472 (by decide) (by decide) (by decide) (by decide) (by decide) hG.1]
  show jm_c (some (6, xs)) 223 [.ref 180, .int (xs 1), .int (xs 2), .int (xs 3), .int (xs 4), .int (xs 5)] G _
  refine jm_c_mono (jm_c_none h) ?_
  rintro v G' ⟨rfl, hG'⟩
  show jm_w (some (6, xs)) 49 255 501 [.ref 1, .ref 2, .ref 180, .int 0] [.int x, .int x] G' jl_Q
  rw [u255_501, if_pos rfl]
  exact jl_end hG'
theorem jl_case_10 {xs : Nat → Int32} (h : jl_ok 130 224 [.int (xs 1), .int (xs 2), .int (xs 3), .int (xs 4), .int (xs 5)]) : jm_w (some (6, xs)) 49 255 506 [.ref 1, .ref 2, .ref 180, .int 0] [] jm_G jl_Q := by
  obtain ⟨x, h⟩ := h
  rw [u255_506 (by decide) (by decide) (by decide) (by decide) (by decide) (st_t2 jm_G_st)]
  show jm_c (some (6, xs)) 130 [.ref 2, .int (xs 1), .int (xs 2), .int (xs 3), .int (xs 4), .int (xs 5)] jm_G _
  refine jm_c_mono (jm_c_none h) ?_
  rintro v G ⟨rfl, hG, h⟩
  show jm_w (some (6, xs)) 49 255 535 [.ref 1, .ref 2, .ref 180, .int 0] [.int x] G jl_Q
  rw [u255_535 (by decide) (by decide) (by decide) (by decide) (by decide) hG.1]
  show jm_c (some (6, xs)) 224 [.ref 180, .int (xs 1), .int (xs 2), .int (xs 3), .int (xs 4), .int (xs 5)] G _
  refine jm_c_mono (jm_c_none h) ?_
  rintro v G' ⟨rfl, hG'⟩
  show jm_w (some (6, xs)) 49 255 564 [.ref 1, .ref 2, .ref 180, .int 0] [.int x, .int x] G' jl_Q
  rw [u255_564, if_pos rfl]
  exact jl_end hG'
theorem jl_case_11 {xs : Nat → Int32} (h : jl_ok 131 225 [.int (xs 1), .int (xs 2), .int (xs 3)]) : jm_w (some (6, xs)) 49 255 569 [.ref 1, .ref 2, .ref 180, .int 0] [] jm_G jl_Q := by
  obtain ⟨x, h⟩ := h
  rw [u255_569 (by decide) (by decide) (by decide) (st_t2 jm_G_st)]
  show jm_c (some (6, xs)) 131 [.ref 2, .int (xs 1), .int (xs 2), .int (xs 3)] jm_G _
  refine jm_c_mono (jm_c_none h) ?_
  rintro v G ⟨rfl, hG, h⟩
  show jm_w (some (6, xs)) 49 255 588 [.ref 1, .ref 2, .ref 180, .int 0] [.int x] G jl_Q
  rw [u255_588 (by decide) (by decide) (by decide) hG.1]
  show jm_c (some (6, xs)) 225 [.ref 180, .int (xs 1), .int (xs 2), .int (xs 3)] G _
  refine jm_c_mono (jm_c_none h) ?_
  rintro v G' ⟨rfl, hG'⟩
  show jm_w (some (6, xs)) 49 255 607 [.ref 1, .ref 2, .ref 180, .int 0] [.int x, .int x] G' jl_Q
  rw [u255_607, if_pos rfl]
  exact jl_end hG'
theorem jl_case_12 {xs : Nat → Int32} (h : jl_ok 132 226 [.int (xs 1), .int (xs 2), .int (xs 3), .int (xs 4), .int (xs 5)]) : jm_w (some (6, xs)) 49 255 612 [.ref 1, .ref 2, .ref 180, .int 0] [] jm_G jl_Q := by
  obtain ⟨x, h⟩ := h
  rw [u255_612 (by decide) (by decide) (by decide) (by decide) (by decide) (st_t2 jm_G_st)]
  show jm_c (some (6, xs)) 132 [.ref 2, .int (xs 1), .int (xs 2), .int (xs 3), .int (xs 4), .int (xs 5)] jm_G _
  refine jm_c_mono (jm_c_none h) ?_
  rintro v G ⟨rfl, hG, h⟩
  show jm_w (some (6, xs)) 49 255 641 [.ref 1, .ref 2, .ref 180, .int 0] [.int x] G jl_Q
  rw [u255_641 (by decide) (by decide) (by decide) (by decide) (by decide) hG.1]
  show jm_c (some (6, xs)) 226 [.ref 180, .int (xs 1), .int (xs 2), .int (xs 3), .int (xs 4), .int (xs 5)] G _
  refine jm_c_mono (jm_c_none h) ?_
  rintro v G' ⟨rfl, hG'⟩
  show jm_w (some (6, xs)) 49 255 670 [.ref 1, .ref 2, .ref 180, .int 0] [.int x, .int x] G' jl_Q
  rw [u255_670, if_pos rfl]
  exact jl_end hG'
theorem jl_case_13 {xs : Nat → Int32} (h : jl_ok 133 228 [.int (xs 1), .int (xs 2), .int (xs 3), .int (xs 4)]) : jm_w (some (6, xs)) 49 255 675 [.ref 1, .ref 2, .ref 180, .int 0] [] jm_G jl_Q := by
  obtain ⟨x, h⟩ := h
  rw [u255_675 (by decide) (by decide) (by decide) (by decide) (st_t2 jm_G_st)]
  show jm_c (some (6, xs)) 133 [.ref 2, .int (xs 1), .int (xs 2), .int (xs 3), .int (xs 4)] jm_G _
  refine jm_c_mono (jm_c_none h) ?_
  rintro v G ⟨rfl, hG, h⟩
  show jm_w (some (6, xs)) 49 255 699 [.ref 1, .ref 2, .ref 180, .int 0] [.int x] G jl_Q
  rw [u255_699 (by decide) (by decide) (by decide) (by decide) hG.1]
  show jm_c (some (6, xs)) 228 [.ref 180, .int (xs 1), .int (xs 2), .int (xs 3), .int (xs 4)] G _
  refine jm_c_mono (jm_c_none h) ?_
  rintro v G' ⟨rfl, hG'⟩
  show jm_w (some (6, xs)) 49 255 723 [.ref 1, .ref 2, .ref 180, .int 0] [.int x, .int x] G' jl_Q
  rw [u255_723, if_pos rfl]
  exact jl_end hG'
theorem jl_case_14 {xs : Nat → Int32} (h : jl_ok 114 230 [.int (xs 1), .int (xs 2), .int (xs 3), .int (xs 4)]) : jm_w (some (6, xs)) 49 255 728 [.ref 1, .ref 2, .ref 180, .int 0] [] jm_G jl_Q := by
  obtain ⟨x, h⟩ := h
  rw [u255_728 (by decide) (by decide) (by decide) (by decide) (st_t2 jm_G_st)]
  show jm_c (some (6, xs)) 114 [.ref 2, .int (xs 1), .int (xs 2), .int (xs 3), .int (xs 4)] jm_G _
  refine jm_c_mono (jm_c_none h) ?_
  rintro v G ⟨rfl, hG, h⟩
  show jm_w (some (6, xs)) 49 255 752 [.ref 1, .ref 2, .ref 180, .int 0] [.int x] G jl_Q
  rw [u255_752 (by decide) (by decide) (by decide) (by decide) hG.1]
  show jm_c (some (6, xs)) 230 [.ref 180, .int (xs 1), .int (xs 2), .int (xs 3), .int (xs 4)] G _
  refine jm_c_mono (jm_c_none h) ?_
  rintro v G' ⟨rfl, hG'⟩
  show jm_w (some (6, xs)) 49 255 776 [.ref 1, .ref 2, .ref 180, .int 0] [.int x, .int x] G' jl_Q
  rw [u255_776, if_pos rfl]
  exact jl_end hG'
theorem jl_case_15 {xs : Nat → Int32} (h : jl_ok 117 232 [.int (xs 1), .int (xs 2), .int (xs 3), .int (xs 4)]) : jm_w (some (6, xs)) 49 255 781 [.ref 1, .ref 2, .ref 180, .int 0] [] jm_G jl_Q := by
  obtain ⟨x, h⟩ := h
  rw [u255_781 (by decide) (by decide) (by decide) (by decide) (st_t2 jm_G_st)]
  show jm_c (some (6, xs)) 117 [.ref 2, .int (xs 1), .int (xs 2), .int (xs 3), .int (xs 4)] jm_G _
  refine jm_c_mono (jm_c_none h) ?_
  rintro v G ⟨rfl, hG, h⟩
  show jm_w (some (6, xs)) 49 255 805 [.ref 1, .ref 2, .ref 180, .int 0] [.int x] G jl_Q
  rw [u255_805 (by decide) (by decide) (by decide) (by decide) hG.1]
  show jm_c (some (6, xs)) 232 [.ref 180, .int (xs 1), .int (xs 2), .int (xs 3), .int (xs 4)] G _
  refine jm_c_mono (jm_c_none h) ?_
  rintro v G' ⟨rfl, hG'⟩
  show jm_w (some (6, xs)) 49 255 829 [.ref 1, .ref 2, .ref 180, .int 0] [.int x, .int x] G' jl_Q
  rw [u255_829, if_pos rfl]
  exact jl_end hG'
theorem jl_case_16 {xs : Nat → Int32} (h : jl_ok 136 229 [.int (xs 1), .int (xs 2), .int (xs 3), .int (xs 4), .int (xs 5)]) : jm_w (some (6, xs)) 49 255 834 [.ref 1, .ref 2, .ref 180, .int 0] [] jm_G jl_Q := by
  obtain ⟨x, h⟩ := h
  rw [u255_834 (by decide) (by decide) (by decide) (by decide) (by decide) (st_t2 jm_G_st)]
  show jm_c (some (6, xs)) 136 [.ref 2, .int (xs 1), .int (xs 2), .int (xs 3), .int (xs 4), .int (xs 5)] jm_G _
  refine jm_c_mono (jm_c_none h) ?_
  rintro v G ⟨rfl, hG, h⟩
  show jm_w (some (6, xs)) 49 255 863 [.ref 1, .ref 2, .ref 180, .int 0] [.int x] G jl_Q
  rw [u255_863 (by decide) (by decide) (by decide) (by decide) (by decide) hG.1]
  show jm_c (some (6, xs)) 229 [.ref 180, .int (xs 1), .int (xs 2), .int (xs 3), .int (xs 4), .int (xs 5)] G _
  refine jm_c_mono (jm_c_none h) ?_
  rintro v G' ⟨rfl, hG'⟩
  show jm_w (some (6, xs)) 49 255 892 [.ref 1, .ref 2, .ref 180, .int 0] [.int x, .int x] G' jl_Q
  rw [u255_892, if_pos rfl]
  exact jl_end hG'
theorem jl_case_17 {xs : Nat → Int32} (h : jl_ok 118 237 [.int (xs 1), .int (xs 2), .int (xs 3), .int (xs 4)]) : jm_w (some (6, xs)) 49 255 897 [.ref 1, .ref 2, .ref 180, .int 0] [] jm_G jl_Q := by
  obtain ⟨x, h⟩ := h
  rw [u255_897 (by decide) (by decide) (by decide) (by decide) (st_t2 jm_G_st)]
  show jm_c (some (6, xs)) 118 [.ref 2, .int (xs 1), .int (xs 2), .int (xs 3), .int (xs 4)] jm_G _
  refine jm_c_mono (jm_c_none h) ?_
  rintro v G ⟨rfl, hG, h⟩
  show jm_w (some (6, xs)) 49 255 921 [.ref 1, .ref 2, .ref 180, .int 0] [.int x] G jl_Q
  rw [u255_921 (by decide) (by decide) (by decide) (by decide) hG.1]
  show jm_c (some (6, xs)) 237 [.ref 180, .int (xs 1), .int (xs 2), .int (xs 3), .int (xs 4)] G _
  refine jm_c_mono (jm_c_none h) ?_
  rintro v G' ⟨rfl, hG'⟩
  show jm_w (some (6, xs)) 49 255 945 [.ref 1, .ref 2, .ref 180, .int 0] [.int x, .int x] G' jl_Q
  rw [u255_945, if_pos rfl]
  exact jl_end hG'
theorem jl_case_18 {xs : Nat → Int32} (h : jl_ok 138 241 [.int (xs 1), .int (xs 2), .int (xs 3), .int (xs 4), .int (xs 5)]) : jm_w (some (6, xs)) 49 255 950 [.ref 1, .ref 2, .ref 180, .int 0] [] jm_G jl_Q := by
  obtain ⟨x, h⟩ := h
  rw [u255_950 (by decide) (by decide) (by decide) (by decide) (by decide) (st_t2 jm_G_st)]
  show jm_c (some (6, xs)) 138 [.ref 2, .int (xs 1), .int (xs 2), .int (xs 3), .int (xs 4), .int (xs 5)] jm_G _
  refine jm_c_mono (jm_c_none h) ?_
  rintro v G ⟨rfl, hG, h⟩
  show jm_w (some (6, xs)) 49 255 979 [.ref 1, .ref 2, .ref 180, .int 0] [.int x] G jl_Q
  rw [u255_979 (by decide) (by decide) (by decide) (by decide) (by decide) hG.1]
  show jm_c (some (6, xs)) 241 [.ref 180, .int (xs 1), .int (xs 2), .int (xs 3), .int (xs 4), .int (xs 5)] G _
  refine jm_c_mono (jm_c_none h) ?_
  rintro v G' ⟨rfl, hG'⟩
  show jm_w (some (6, xs)) 49 255 1008 [.ref 1, .ref 2, .ref 180, .int 0] [.int x, .int x] G' jl_Q
  rw [u255_1008, if_pos rfl]
  exact jl_end hG'
theorem jl_case_19 {xs : Nat → Int32} (h : jl_ok 145 246 [.int (xs 1)]) : jm_w (some (6, xs)) 49 255 1013 [.ref 1, .ref 2, .ref 180, .int 0] [] jm_G jl_Q := by
  obtain ⟨x, h⟩ := h
  rw [u255_1013 (by decide) (st_t2 jm_G_st)]
  show jm_c (some (6, xs)) 145 [.ref 2, .int (xs 1)] jm_G _
  refine jm_c_mono (jm_c_none h) ?_
  rintro v G ⟨rfl, hG, h⟩
  show jm_w (some (6, xs)) 49 255 1022 [.ref 1, .ref 2, .ref 180, .int 0] [.int x] G jl_Q
  rw [u255_1022 (by decide) hG.1]
  show jm_c (some (6, xs)) 246 [.ref 180, .int (xs 1)] G _
  refine jm_c_mono (jm_c_none h) ?_
  rintro v G' ⟨rfl, hG'⟩
  show jm_w (some (6, xs)) 49 255 1031 [.ref 1, .ref 2, .ref 180, .int 0] [.int x, .int x] G' jl_Q
  rw [u255_1031, if_pos rfl]
  exact jl_end hG'
theorem jl_case_20 {xs : Nat → Int32} (h : jl_ok 141 243 [.int (xs 1), .int (xs 2), .int (xs 3), .int (xs 4)]) : jm_w (some (6, xs)) 49 255 1036 [.ref 1, .ref 2, .ref 180, .int 0] [] jm_G jl_Q := by
  obtain ⟨x, h⟩ := h
  rw [u255_1036 (by decide) (by decide) (by decide) (by decide) (st_t2 jm_G_st)]
  show jm_c (some (6, xs)) 141 [.ref 2, .int (xs 1), .int (xs 2), .int (xs 3), .int (xs 4)] jm_G _
  refine jm_c_mono (jm_c_none h) ?_
  rintro v G ⟨rfl, hG, h⟩
  show jm_w (some (6, xs)) 49 255 1060 [.ref 1, .ref 2, .ref 180, .int 0] [.int x] G jl_Q
  rw [u255_1060 (by decide) (by decide) (by decide) (by decide) hG.1]
  show jm_c (some (6, xs)) 243 [.ref 180, .int (xs 1), .int (xs 2), .int (xs 3), .int (xs 4)] G _
  refine jm_c_mono (jm_c_none h) ?_
  rintro v G' ⟨rfl, hG'⟩
  show jm_w (some (6, xs)) 49 255 1084 [.ref 1, .ref 2, .ref 180, .int 0] [.int x, .int x] G' jl_Q
  rw [u255_1084, if_pos rfl]
  exact jl_end hG'
theorem jl_case_21 {xs : Nat → Int32} (h : jl_okL 123 244 [.int (xs 1), .int (xs 2), .int (xs 3), .int (xs 4), .int (xs 5)]) : jm_w (some (6, xs)) 49 255 1089 [.ref 1, .ref 2, .ref 180, .int 0] [] jm_G jl_Q := by
  obtain ⟨x, h⟩ := h
  rw [u255_1089 (by decide) (by decide) (by decide) (by decide) (by decide) (st_t2 jm_G_st)]
  show jm_c (some (6, xs)) 123 [.ref 2, .int (xs 1), .int (xs 2), .int (xs 3), .int (xs 4), .int (xs 5)] jm_G _
  refine jm_c_mono (jm_c_none h) ?_
  rintro v G ⟨rfl, hG, h⟩
  show jm_w (some (6, xs)) 49 255 1118 [.ref 1, .ref 2, .ref 180, .int 0] [.long x] G jl_Q
  rw [u255_1118 (by decide) (by decide) (by decide) (by decide) (by decide) hG.1]
  show jm_c (some (6, xs)) 244 [.ref 180, .int (xs 1), .int (xs 2), .int (xs 3), .int (xs 4), .int (xs 5)] G _
  refine jm_c_mono (jm_c_none h) ?_
  rintro v G' ⟨rfl, hG'⟩
  show jm_w (some (6, xs)) 49 255 1147 [.ref 1, .ref 2, .ref 180, .int 0] [.long x, .long x] G' jl_Q
  rw [u255_1147, if_pos (by unfold lg_cmp; simp)]
  exact jl_end hG'
theorem jl_case_22 {xs : Nat → Int32} (h : jl_ok 147 247 [.int (xs 1), .int (xs 2)]) : jm_w (some (6, xs)) 49 255 1153 [.ref 1, .ref 2, .ref 180, .int 0] [] jm_G jl_Q := by
  obtain ⟨x, h⟩ := h
  rw [u255_1153 (by decide) (by decide) (st_t2 jm_G_st)]
  show jm_c (some (6, xs)) 147 [.ref 2, .int (xs 1), .int (xs 2)] jm_G _
  refine jm_c_mono (jm_c_none h) ?_
  rintro v G ⟨rfl, hG, h⟩
  show jm_w (some (6, xs)) 49 255 1167 [.ref 1, .ref 2, .ref 180, .int 0] [.int x] G jl_Q
  rw [u255_1167 (by decide) (by decide) hG.1]
  show jm_c (some (6, xs)) 247 [.ref 180, .int (xs 1), .int (xs 2)] G _
  refine jm_c_mono (jm_c_none h) ?_
  rintro v G' ⟨rfl, hG'⟩
  show jm_w (some (6, xs)) 49 255 1181 [.ref 1, .ref 2, .ref 180, .int 0] [.int x, .int x] G' jl_Q
  rw [u255_1181, if_pos rfl]
  exact jl_end hG'
theorem jl_case_23 {xs : Nat → Int32} (h : jl_ok 143 248 [.int (xs 1), .int (xs 2), .int (xs 3)]) : jm_w (some (6, xs)) 49 255 1186 [.ref 1, .ref 2, .ref 180, .int 0] [] jm_G jl_Q := by
  obtain ⟨x, h⟩ := h
  rw [u255_1186 (by decide) (by decide) (by decide) (st_t2 jm_G_st)]
  show jm_c (some (6, xs)) 143 [.ref 2, .int (xs 1), .int (xs 2), .int (xs 3)] jm_G _
  refine jm_c_mono (jm_c_none h) ?_
  rintro v G ⟨rfl, hG, h⟩
  show jm_w (some (6, xs)) 49 255 1205 [.ref 1, .ref 2, .ref 180, .int 0] [.int x] G jl_Q
  rw [u255_1205 (by decide) (by decide) (by decide) hG.1]
  show jm_c (some (6, xs)) 248 [.ref 180, .int (xs 1), .int (xs 2), .int (xs 3)] G _
  refine jm_c_mono (jm_c_none h) ?_
  rintro v G' ⟨rfl, hG'⟩
  show jm_w (some (6, xs)) 49 255 1224 [.ref 1, .ref 2, .ref 180, .int 0] [.int x, .int x] G' jl_Q
  rw [u255_1224, if_pos rfl]
  exact jl_end hG'
theorem jl_case_24 {xs : Nat → Int32} (h : jl_ok 148 249 [.int (xs 1), .int (xs 2)]) : jm_w (some (6, xs)) 49 255 1229 [.ref 1, .ref 2, .ref 180, .int 0] [] jm_G jl_Q := by
  obtain ⟨x, h⟩ := h
  rw [u255_1229 (by decide) (by decide) (st_t2 jm_G_st)]
  show jm_c (some (6, xs)) 148 [.ref 2, .int (xs 1), .int (xs 2)] jm_G _
  refine jm_c_mono (jm_c_none h) ?_
  rintro v G ⟨rfl, hG, h⟩
  show jm_w (some (6, xs)) 49 255 1243 [.ref 1, .ref 2, .ref 180, .int 0] [.int x] G jl_Q
  rw [u255_1243 (by decide) (by decide) hG.1]
  show jm_c (some (6, xs)) 249 [.ref 180, .int (xs 1), .int (xs 2)] G _
  refine jm_c_mono (jm_c_none h) ?_
  rintro v G' ⟨rfl, hG'⟩
  show jm_w (some (6, xs)) 49 255 1257 [.ref 1, .ref 2, .ref 180, .int 0] [.int x, .int x] G' jl_Q
  rw [u255_1257, if_pos rfl]
  exact jl_end hG'
theorem jl_case_25 {xs : Nat → Int32} (h : jl_ok 104 214 [.int (xs 1)]) : jm_w (some (6, xs)) 49 255 1262 [.ref 1, .ref 2, .ref 180, .int 0] [] jm_G jl_Q := by
  obtain ⟨x, h⟩ := h
  rw [u255_1262 (by decide) (st_t2 jm_G_st)]
  show jm_c (some (6, xs)) 104 [.ref 2, .int (xs 1)] jm_G _
  refine jm_c_mono (jm_c_none h) ?_
  rintro v G ⟨rfl, hG, h⟩
  show jm_w (some (6, xs)) 49 255 1271 [.ref 1, .ref 2, .ref 180, .int 0] [.int x] G jl_Q
  rw [u255_1271 (by decide) hG.1]
  show jm_c (some (6, xs)) 214 [.ref 180, .int (xs 1)] G _
  refine jm_c_mono (jm_c_none h) ?_
  rintro v G' ⟨rfl, hG'⟩
  show jm_w (some (6, xs)) 49 255 1280 [.ref 1, .ref 2, .ref 180, .int 0] [.int x, .int x] G' jl_Q
  rw [u255_1280, if_pos rfl]
  exact jl_end hG'
theorem jl_case_26 {xs : Nat → Int32} (h : jl_ok 106 215 [.int (xs 1)]) : jm_w (some (6, xs)) 49 255 1285 [.ref 1, .ref 2, .ref 180, .int 0] [] jm_G jl_Q := by
  obtain ⟨x, h⟩ := h
  rw [u255_1285 (by decide) (st_t2 jm_G_st)]
  show jm_c (some (6, xs)) 106 [.ref 2, .int (xs 1)] jm_G _
  refine jm_c_mono (jm_c_none h) ?_
  rintro v G ⟨rfl, hG, h⟩
  show jm_w (some (6, xs)) 49 255 1294 [.ref 1, .ref 2, .ref 180, .int 0] [.int x] G jl_Q
  rw [u255_1294 (by decide) hG.1]
  show jm_c (some (6, xs)) 215 [.ref 180, .int (xs 1)] G _
  refine jm_c_mono (jm_c_none h) ?_
  rintro v G' ⟨rfl, hG'⟩
  show jm_w (some (6, xs)) 49 255 1303 [.ref 1, .ref 2, .ref 180, .int 0] [.int x, .int x] G' jl_Q
  rw [u255_1303, if_pos rfl]
  exact jl_end hG'
theorem jl_case_27 {xs : Nat → Int32} (h : jl_ok 149 250 [.int (xs 1)]) : jm_w (some (6, xs)) 49 255 1308 [.ref 1, .ref 2, .ref 180, .int 0] [] jm_G jl_Q := by
  obtain ⟨x, h⟩ := h
  rw [u255_1308 (by decide) (st_t2 jm_G_st)]
  show jm_c (some (6, xs)) 149 [.ref 2, .int (xs 1)] jm_G _
  refine jm_c_mono (jm_c_none h) ?_
  rintro v G ⟨rfl, hG, h⟩
  show jm_w (some (6, xs)) 49 255 1317 [.ref 1, .ref 2, .ref 180, .int 0] [.int x] G jl_Q
  rw [u255_1317 (by decide) hG.1]
  show jm_c (some (6, xs)) 250 [.ref 180, .int (xs 1)] G _
  refine jm_c_mono (jm_c_none h) ?_
  rintro v G' ⟨rfl, hG'⟩
  show jm_w (some (6, xs)) 49 255 1326 [.ref 1, .ref 2, .ref 180, .int 0] [.int x, .int x] G' jl_Q
  rw [u255_1326, if_pos rfl]
  exact jl_end hG'
theorem jl_case_5 {xs : Nat → Int32} (h : jl_ok 98 219 [.int (xs 1), .int (xs 2), .int (if xs 3 = 0 then 0 else 1)]) : jm_w (some (6, xs)) 49 255 305 [.ref 1, .ref 2, .ref 180, .int 0] [] jm_G jl_Q := by
  obtain ⟨x, h⟩ := h
  have key : ∀ z : Int32, jm_c none 98 [.ref 2, .int (xs 1), .int (xs 2), .int z] jm_G (fun v G => v = some (.int x) ∧ jl_lo G ∧ jm_c none 219 [.ref 180, .int (xs 1), .int (xs 2), .int z] G (fun v' G' => v' = some (.int x) ∧ jl_lo G')) → z = (if xs 3 = 0 then 0 else 1) → jm_w (some (6, xs)) 49 255 329 [.ref 1, .ref 2, .ref 180, .int 0] [.int z, .int (xs 2), .int (xs 1), .ref 2] jm_G jl_Q := by
    intro z h hz
    rw [u255_329 (st_t2 jm_G_st)]
    refine jm_c_mono (jm_c_none h) ?_
    rintro v G ⟨rfl, hG, h⟩
    show jm_w (some (6, xs)) 49 255 332 [.ref 1, .ref 2, .ref 180, .int 0] [.int x] G jl_Q
    have key2 : jm_w (some (6, xs)) 49 255 356 [.ref 1, .ref 2, .ref 180, .int 0] [.int z, .int (xs 2), .int (xs 1), .ref 180, .int x] G jl_Q := by
      rw [u255_356 hG.1]
      refine jm_c_mono (jm_c_none h) ?_
      rintro v G' ⟨rfl, hG'⟩
      show jm_w (some (6, xs)) 49 255 359 [.ref 1, .ref 2, .ref 180, .int 0] [.int x, .int x] G' jl_Q
      rw [u255_359, if_pos rfl]
      exact jl_end hG'
    rw [u255_332 (by decide) (by decide) (by decide)]
    show (if xs 3 = 0 then _ else _)
    by_cases h3 : xs 3 = 0
    · rw [if_pos h3] at hz ⊢
      rw [u255_355]
      subst hz
      exact key2
    · rw [if_neg h3] at hz ⊢
      rw [u255_351]
      subst hz
      exact key2
  rw [u255_305 (by decide) (by decide) (by decide)]
  show (if xs 3 = 0 then _ else _)
  by_cases h3 : xs 3 = 0
  · rw [if_pos h3] at h ⊢
    rw [u255_328]
    exact key 0 h (by rw [if_pos h3])
  · rw [if_neg h3] at h ⊢
    rw [u255_324]
    exact key 1 h (by rw [if_neg h3])
theorem jl_and31 (a : Int32) : 0 ≤ (a &&& 31).toInt ∧ (a &&& 31).toInt < 32 := by
  have e := jI_and (k := 5) (m := 31) a.toInt (by decide) (by decide)
  rw [← jI_of a] at e
  have h0 : 0 ≤ a.toInt % ((2 ^ 5 : Nat) : Int) := Int.emod_nonneg _ (by decide)
  have h1 : a.toInt % ((2 ^ 5 : Nat) : Int) < 32 := Int.emod_lt_of_pos _ (by decide)
  rw [e, jI_t ⟨by omega, by omega⟩]
  exact ⟨h0, h1⟩
theorem jl_all {xs : Nat → Int32} (h0 : jl_ok 13 157 [.int (xs 1), .int (xs 2), .int (xs 3), .int (xs 4), .int (xs 5)]) (h1 : jl_ok 15 159 [.int (xs 1)]) (h2 : jl_ok 16 160 []) (h3 : jl_ok 91 211 []) (h4 : jl_ok 92 216 [.int (xs 1), .int (xs 2)]) (h5 : jl_ok 98 219 [.int (xs 1), .int (xs 2), .int (if xs 3 = 0 then 0 else 1)]) (h6 : jl_ok 100 222 []) (h7 : jl_ok 102 212 []) (h8 : jl_ok 107 233 [.int (xs 1), .int (xs 2), .int (xs 3), .int (xs 4)]) (h9 : jl_ok 129 223 [.int (xs 1), .int (xs 2), .int (xs 3), .int (xs 4), .int (xs 5)]) (h10 : jl_ok 130 224 [.int (xs 1), .int (xs 2), .int (xs 3), .int (xs 4), .int (xs 5)]) (h11 : jl_ok 131 225 [.int (xs 1), .int (xs 2), .int (xs 3)]) (h12 : jl_ok 132 226 [.int (xs 1), .int (xs 2), .int (xs 3), .int (xs 4), .int (xs 5)]) (h13 : jl_ok 133 228 [.int (xs 1), .int (xs 2), .int (xs 3), .int (xs 4)]) (h14 : jl_ok 114 230 [.int (xs 1), .int (xs 2), .int (xs 3), .int (xs 4)]) (h15 : jl_ok 117 232 [.int (xs 1), .int (xs 2), .int (xs 3), .int (xs 4)]) (h16 : jl_ok 136 229 [.int (xs 1), .int (xs 2), .int (xs 3), .int (xs 4), .int (xs 5)]) (h17 : jl_ok 118 237 [.int (xs 1), .int (xs 2), .int (xs 3), .int (xs 4)]) (h18 : jl_ok 138 241 [.int (xs 1), .int (xs 2), .int (xs 3), .int (xs 4), .int (xs 5)]) (h19 : jl_ok 145 246 [.int (xs 1)]) (h20 : jl_ok 141 243 [.int (xs 1), .int (xs 2), .int (xs 3), .int (xs 4)]) (h21 : jl_okL 123 244 [.int (xs 1), .int (xs 2), .int (xs 3), .int (xs 4), .int (xs 5)]) (h22 : jl_ok 147 247 [.int (xs 1), .int (xs 2)]) (h23 : jl_ok 143 248 [.int (xs 1), .int (xs 2), .int (xs 3)]) (h24 : jl_ok 148 249 [.int (xs 1), .int (xs 2)]) (h25 : jl_ok 104 214 [.int (xs 1)]) (h26 : jl_ok 106 215 [.int (xs 1)]) (h27 : jl_ok 149 250 [.int (xs 1)]) : jm_w (some (6, xs)) 49 255 18 [.ref 1, .ref 2, .ref 180, .int 0] [] jm_G jl_Q := by
  rw [u255_18, if_neg (by decide), u255_27 (by decide)]
  show jm_w (some (6, xs)) 49 255 33 [.ref 1, .ref 2, .ref 180, .int 0] [.int (xs 0 &&& 31)] jm_G jl_Q
  have hb : 0 ≤ (xs 0 &&& 31).toInt ∧ (xs 0 &&& 31).toInt < 32 := jl_and31 (xs 0)
  by_cases hd : 27 < (xs 0 &&& 31).toInt
  · rw [u255_33_d (Or.inr hd)]
    exact jl_end (jl_lo_st jm_G_st)
  have hk : ∀ k : Int32, (xs 0 &&& 31).toInt = k.toInt → (xs 0 &&& 31) = k := fun k h => Int32.toInt_inj.mp h
  by_cases g0 : (xs 0 &&& 31).toInt = 0
  · rw [hk 0 g0, u255_33_0]
    exact jl_case_0 h0
  by_cases g1 : (xs 0 &&& 31).toInt = 1
  · rw [hk 1 g1, u255_33_1]
    exact jl_case_1 h1
  by_cases g2 : (xs 0 &&& 31).toInt = 2
  · rw [hk 2 g2, u255_33_2]
    exact jl_case_2 h2
  by_cases g3 : (xs 0 &&& 31).toInt = 3
  · rw [hk 3 g3, u255_33_3]
    exact jl_case_3 h3
  by_cases g4 : (xs 0 &&& 31).toInt = 4
  · rw [hk 4 g4, u255_33_4]
    exact jl_case_4 h4
  by_cases g5 : (xs 0 &&& 31).toInt = 5
  · rw [hk 5 g5, u255_33_5]
    exact jl_case_5 h5
  by_cases g6 : (xs 0 &&& 31).toInt = 6
  · rw [hk 6 g6, u255_33_6]
    exact jl_case_6 h6
  by_cases g7 : (xs 0 &&& 31).toInt = 7
  · rw [hk 7 g7, u255_33_7]
    exact jl_case_7 h7
  by_cases g8 : (xs 0 &&& 31).toInt = 8
  · rw [hk 8 g8, u255_33_8]
    exact jl_case_8 h8
  by_cases g9 : (xs 0 &&& 31).toInt = 9
  · rw [hk 9 g9, u255_33_9]
    exact jl_case_9 h9
  by_cases g10 : (xs 0 &&& 31).toInt = 10
  · rw [hk 10 g10, u255_33_10]
    exact jl_case_10 h10
  by_cases g11 : (xs 0 &&& 31).toInt = 11
  · rw [hk 11 g11, u255_33_11]
    exact jl_case_11 h11
  by_cases g12 : (xs 0 &&& 31).toInt = 12
  · rw [hk 12 g12, u255_33_12]
    exact jl_case_12 h12
  by_cases g13 : (xs 0 &&& 31).toInt = 13
  · rw [hk 13 g13, u255_33_13]
    exact jl_case_13 h13
  by_cases g14 : (xs 0 &&& 31).toInt = 14
  · rw [hk 14 g14, u255_33_14]
    exact jl_case_14 h14
  by_cases g15 : (xs 0 &&& 31).toInt = 15
  · rw [hk 15 g15, u255_33_15]
    exact jl_case_15 h15
  by_cases g16 : (xs 0 &&& 31).toInt = 16
  · rw [hk 16 g16, u255_33_16]
    exact jl_case_16 h16
  by_cases g17 : (xs 0 &&& 31).toInt = 17
  · rw [hk 17 g17, u255_33_17]
    exact jl_case_17 h17
  by_cases g18 : (xs 0 &&& 31).toInt = 18
  · rw [hk 18 g18, u255_33_18]
    exact jl_case_18 h18
  by_cases g19 : (xs 0 &&& 31).toInt = 19
  · rw [hk 19 g19, u255_33_19]
    exact jl_case_19 h19
  by_cases g20 : (xs 0 &&& 31).toInt = 20
  · rw [hk 20 g20, u255_33_20]
    exact jl_case_20 h20
  by_cases g21 : (xs 0 &&& 31).toInt = 21
  · rw [hk 21 g21, u255_33_21]
    exact jl_case_21 h21
  by_cases g22 : (xs 0 &&& 31).toInt = 22
  · rw [hk 22 g22, u255_33_22]
    exact jl_case_22 h22
  by_cases g23 : (xs 0 &&& 31).toInt = 23
  · rw [hk 23 g23, u255_33_23]
    exact jl_case_23 h23
  by_cases g24 : (xs 0 &&& 31).toInt = 24
  · rw [hk 24 g24, u255_33_24]
    exact jl_case_24 h24
  by_cases g25 : (xs 0 &&& 31).toInt = 25
  · rw [hk 25 g25, u255_33_25]
    exact jl_case_25 h25
  by_cases g26 : (xs 0 &&& 31).toInt = 26
  · rw [hk 26 g26, u255_33_26]
    exact jl_case_26 h26
  by_cases g27 : (xs 0 &&& 31).toInt = 27
  · rw [hk 27 g27, u255_33_27]
    exact jl_case_27 h27
  exfalso
  omega
