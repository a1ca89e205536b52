set_option maxRecDepth 20000
/-! the law, call by call -/
theorem jb_M248 (n w k : Int32) : ∃ ans : Int32, jq_M 248 [.int n, .int w, .int k] (.int ans) := by
  by_cases hs : jr_sz n w
  · by_cases hk : 0 ≤ k.toInt ∧ k.toInt ≤ 2
    · by_cases h6 : n.toInt ≤ 6
      · obtain ⟨N, W, h1, h2, hw, rfl, rfl⟩ := jr_sz_of hs
        obtain ⟨K, hK, rfl⟩ := ji_nn (x := k) (k := 3) hk.1 (by omega)
        have hN : N ≤ 6 := by
          rw [nI_toInt (by omega)] at h6
          omega
        exact ⟨_, M248 h1 hN hw hK⟩
      · refine ⟨-2, jq_M0 fun H st Q => ?_⟩
        rw [en248, u248_0, c217, if_pos hs]
        simp only [Option.toList_some, List.append_nil]
        rw [u248_5, if_neg i1_0, u248_8, c176, i32_0, i32_2, if_pos hk]
        simp only [Option.toList_some, List.append_nil]
        rw [u248_14, if_pos i1_0, u248_19, u248_25]
        simp only [Int32.le_iff_toInt_le, i32_6]
        rw [if_neg h6]
    · refine ⟨-1, jq_M0 fun H st Q => ?_⟩
      rw [en248, u248_0, c217, if_pos hs]
      simp only [Option.toList_some, List.append_nil]
      rw [u248_5, if_neg i1_0, u248_8, c176, i32_0, i32_2, if_neg hk]
      simp only [Option.toList_some, List.append_nil]
      rw [u248_14, if_neg (by decide), u248_17]
  · refine ⟨-1, jq_M0 fun H st Q => ?_⟩
    rw [en248, u248_0, c217, if_neg hs]
    simp only [Option.toList_some, List.append_nil]
    rw [u248_5, if_pos rfl, u248_17]
section LAW4
variable {S : Option (Nat × (Nat → Int32))} {L : Nat} {xs : Nat → Int32} {c : Nat}
/-- the state of both sides, behind c calls -/
def jA (c : Nat) (G : jm_H) : Prop := jk G ∧ jP c G
theorem jA_C {G G' : jm_H} (h : jA c G) (h' : jK G G') : jA c G' := ⟨h'.1, jP_same h.2 h'.1.1 (fun r hr => (h'.2.2.2.2 r (by omega)).1) (fun k hk => by rw [(h'.2.2.2.2 180 (by decide)).1])⟩
theorem jA_M {c' : Nat} {G G' : jm_H} (h : jA c G) (h' : jPH c' G G') : jA c' G' := ⟨jk_fr h'.2 (fun r hr => by unfold jv_no js_S js_U; omega) h.1, h'.1⟩
theorem jPH_refl {G : jm_H} (h : jA c G) : jPH c G G := ⟨h.2, jf_fr_refl G⟩
theorem zCj {R : Option Value → Prop} {x : (Option Value → jm_H → Prop) → Prop} {G : jm_H} (h : jz (jK G) R x) (hG : jA c G) : jz (jA c) R x := jz_mono h (fun _ hX => jA_C hG hX) (fun _ r => r)
theorem zMj {c' : Nat} {R : Option Value → Prop} {x : (Option Value → jm_H → Prop) → Prop} {G : jm_H} (h : jz (jPH c' G) R x) (hG : jA c G) : jz (jA c') R x := jz_mono h (fun _ hX => jA_M hG hX) (fun _ r => r)
theorem zC {ci : Nat} {as : List Value} {x : Value} {G : jm_H} (h : jq_C ci as x) (hG : jA c G) : jz (jA c) (fun v => v = some x) (fun Q => jm_c S ci (.ref 2 :: as) G Q) := by
  obtain ⟨H1, f, q⟩ := h G hG.1.1
  exact ⟨some x, H1, jA_C hG (jK_j (jK_refl hG.1) f (fun r hr => by unfold jq_PC at hr; omega)), rfl, fun Q => jm_c_all q Q⟩
theorem zM {mi : Nat} {as : List Value} {x : Value} {G : jm_H} (h : jq_M mi as x) (hG : jA c G) : jz (jA c) (fun v => v = some x) (fun Q => jm_c S mi (.ref 180 :: as) G Q) := by
  obtain ⟨H1, f, q⟩ := h G hG.1.1
  refine ⟨some x, H1, jA_M hG ⟨jP_same hG.2 (jq_fn_st f hG.1.1) (fun r hr => (f.1.2.2.2.2 r (by omega)).1) (fun k hk => f.2 k (by omega)), jf_fr_mono f.1 (fun r hr => by omega)⟩, rfl, fun Q => jm_c_all q Q⟩
theorem and31 (a : Int32) : 0 ≤ (a &&& 31).toInt ∧ (a &&& 31).toInt < 32 := by
  have e := jI_and (k := 5) (m := 31) a.toInt (by decide) (by decide)
  rw [← jI_of a] at e
  have h0 : 0 ≤ a.toInt % ((2 ^ 5 : Nat) : Int) := Int.emod_nonneg _ (by decide)
  have h1 : a.toInt % ((2 ^ 5 : Nat) : Int) < 32 := Int.emod_lt_of_pos _ (by decide)
  rw [e, jI_t ⟨by omega, by omega⟩]
  exact ⟨h0, h1⟩
theorem law_in {m k : Nat} (hL : L ≤ 3072) (h : m + k < L) : ¬ (nI m + nI k < 0 ∨ L ≤ (nI m + nI k).toNatClampNeg) := by
  rw [nI_addN]
  exact nI_inK h (by omega)
theorem law_one {m op : Nat} (hm : m + 6 ≤ L) (hL : L ≤ 3072) (hc : c ≤ 600) (ho : op < 32) {G : jm_H} (hG : jA c G) (next : ∀ {G' : jm_H}, jA (c + 1) G' → jz jl_lo (fun v => v = some (.int 1)) (fun Q => jm_w (some (L, xs)) 49 255 18 [.ref 1, .ref 2, .ref 180, .int (nI m + 6)] [] G' Q)) : jz jl_lo (fun v => v = some (.int 1)) (fun Q => jm_w (some (L, xs)) 49 255 33 [.ref 1, .ref 2, .ref 180, .int (nI m)] [.int (nI op)] G Q) := by
  have in1 : ¬ (nI m + 1 < 0 ∨ L ≤ (nI m + 1).toNatClampNeg) := law_in (k := 1) hL (by omega)
  have in2 : ¬ (nI m + 2 < 0 ∨ L ≤ (nI m + 2).toNatClampNeg) := law_in (k := 2) hL (by omega)
  have in3 : ¬ (nI m + 3 < 0 ∨ L ≤ (nI m + 3).toNatClampNeg) := law_in (k := 3) hL (by omega)
  have in4 : ¬ (nI m + 4 < 0 ∨ L ≤ (nI m + 4).toNatClampNeg) := law_in (k := 4) hL (by omega)
  have in5 : ¬ (nI m + 5 < 0 ∨ L ≤ (nI m + 5).toNatClampNeg) := law_in (k := 5) hL (by omega)
  have st := hG.1.1
  have fin' : ∀ {G' : jm_H}, jA (c + 1) G' → jz jl_lo (fun v => v = some (.int 1)) (fun Q => jm_w (some (L, xs)) 49 255 1330 [.ref 1, .ref 2, .ref 180, .int (nI m)] [] G' Q) := fun h => jz_eq (fun _ => u255_1330) (next h)
  have fin : ∀ {G' : jm_H}, jA c G' → jz jl_lo (fun v => v = some (.int 1)) (fun Q => jm_w (some (L, xs)) 49 255 1330 [.ref 1, .ref 2, .ref 180, .int (nI m)] [] G' Q) := fun h => fin' ⟨h.1, jP_mono (Nat.le_succ c) h.2⟩
  by_cases hd : 27 < op
  · exact jz_eq (fun _ => u255_33_d (Or.inr (by rw [nI_toInt (by omega)]; omega))) (fin hG)
  obtain rfl | rfl | rfl | rfl | rfl | rfl | rfl | rfl | rfl | rfl | rfl | rfl | rfl | rfl | rfl | rfl | rfl | rfl | rfl | rfl | rfl | rfl | rfl | rfl | rfl | rfl | rfl | rfl : op = 0 ∨ op = 1 ∨ op = 2 ∨ op = 3 ∨ op = 4 ∨ op = 5 ∨ op = 6 ∨ op = 7 ∨ op = 8 ∨ op = 9 ∨ op = 10 ∨ op = 11 ∨ op = 12 ∨ op = 13 ∨ op = 14 ∨ op = 15 ∨ op = 16 ∨ op = 17 ∨ op = 18 ∨ op = 19 ∨ op = 20 ∨ op = 21 ∨ op = 22 ∨ op = 23 ∨ op = 24 ∨ op = 25 ∨ op = 26 ∨ op = 27 := by omega
  · refine jz_eq (fun _ => u255_33_0) (jz_eq (fun _ => u255_160 in1 in2 in3 in4 in5 (st_t2 st)) (jz_call (zCj (z13 (jK_refl hG.1)) hG) (fun v G1 h1 hv => ?_)))
    obtain ⟨y, rfl⟩ := hv
    have st := h1.1.1
    refine jz_eq (fun _ => u255_189 in1 in2 in3 in4 in5 (st_t180 st)) (jz_call (zMj (z157 (jPH_refl h1)) h1) (fun v G2 h2 hw => ?_))
    obtain ⟨y2, rfl⟩ := hw
    exact jz_eq (fun _ => u255_219) (fin h2)
  · refine jz_eq (fun _ => u255_33_1) (jz_eq (fun _ => u255_223 in1 (st_t2 st)) (jz_call (zCj (z15 (jK_refl hG.1)) hG) (fun v G1 h1 hv => ?_)))
    obtain ⟨y, rfl⟩ := hv
    have st := h1.1.1
    refine jz_eq (fun _ => u255_232 in1 (st_t180 st)) (jz_call (zMj (z159 (jPH_refl h1)) h1) (fun v G2 h2 hw => ?_))
    obtain ⟨y2, rfl⟩ := hw
    exact jz_eq (fun _ => u255_242) (fin h2)
  · refine jz_eq (fun _ => u255_33_2) (jz_eq (fun _ => u255_246  (st_t2 st)) (jz_call (zCj (z16 (jK_refl hG.1)) hG) (fun v G1 h1 hv => ?_)))
    obtain ⟨y, rfl⟩ := hv
    have st := h1.1.1
    refine jz_eq (fun _ => u255_250  (st_t180 st)) (jz_call (zMj (z160 (jPH_refl h1)) h1) (fun v G2 h2 hw => ?_))
    obtain ⟨y2, rfl⟩ := hw
    exact jz_eq (fun _ => u255_255) (fin h2)
  · refine jz_eq (fun _ => u255_33_3) (jz_eq (fun _ => u255_259  (st_t2 st)) (jz_call (zCj (z91 (jK_refl hG.1)) hG) (fun v G1 h1 hv => ?_)))
    obtain ⟨y, rfl⟩ := hv
    have st := h1.1.1
    refine jz_eq (fun _ => u255_263  (st_t180 st)) (jz_call (zMj (z211 (jPH_refl h1)) h1) (fun v G2 h2 hw => ?_))
    obtain ⟨y2, rfl⟩ := hw
    exact jz_eq (fun _ => u255_268) (fin h2)
  · refine jz_eq (fun _ => u255_33_4) (jz_eq (fun _ => u255_272 in1 in2 (st_t2 st)) (jz_call (zCj (z92 (jK_refl hG.1)) hG) (fun v G1 h1 hv => ?_)))
    obtain ⟨y, rfl⟩ := hv
    have st := h1.1.1
    refine jz_eq (fun _ => u255_286 in1 in2 (st_t180 st)) (jz_call (zMj (z216 (jPH_refl h1)) h1) (fun v G2 h2 hw => ?_))
    obtain ⟨y2, rfl⟩ := hw
    exact jz_eq (fun _ => u255_301) (fin h2)
  · have h1 : ∀ b : Int32, jz jl_lo (fun v => v = some (.int 1)) (fun Q => jm_w (some (L, xs)) 49 255 329 [.ref 1, .ref 2, .ref 180, .int (nI m)] [.int b, .int (xs (Int32.toNatClampNeg (nI m + 2))), .int (xs (Int32.toNatClampNeg (nI m + 1))), .ref 2] G Q) := by
      intro b
      refine jz_eq (fun _ => u255_329 (st_t2 st)) (jz_call (zCj (z98 (jK_refl hG.1)) hG) (fun v G1 h1 hv => ?_))
      obtain ⟨y, rfl⟩ := hv
      have st := h1.1.1
      have h2 : ∀ b : Int32, jz jl_lo (fun v => v = some (.int 1)) (fun Q => jm_w (some (L, xs)) 49 255 357 [.ref 1, .ref 2, .ref 180, .int (nI m)] [.int b, .int (xs (Int32.toNatClampNeg (nI m + 2))), .int (xs (Int32.toNatClampNeg (nI m + 1))), .ref 180] G1 Q) := by
        intro b
        refine jz_eq (fun _ => u255_357 (st_t180 st)) (jz_call (zMj (z219 hc (jPH_refl h1)) h1) (fun v G2 h2 hw => ?_))
        obtain ⟨y2, rfl⟩ := hw
        exact jz_eq (fun _ => u255_360) (fin' h2)
      exact jz_eq (fun _ => u255_332 in1 in2 in3) (jz_if (fun _ => jz_eq (fun _ => u255_356) (h2 _)) (fun _ => jz_eq (fun _ => u255_352) (h2 _)))
    exact jz_eq (fun _ => u255_33_5) (jz_eq (fun _ => u255_305 in1 in2 in3) (jz_if (fun _ => jz_eq (fun _ => u255_328) (h1 _)) (fun _ => jz_eq (fun _ => u255_324) (h1 _))))
  · refine jz_eq (fun _ => u255_33_6) (jz_eq (fun _ => u255_364  (st_t2 st)) (jz_call (zCj (z100 (jK_refl hG.1)) hG) (fun v G1 h1 hv => ?_)))
    obtain ⟨y, rfl⟩ := hv
    have st := h1.1.1
    refine jz_eq (fun _ => u255_368  (st_t180 st)) (jz_call (zMj (z222 (jPH_refl h1)) h1) (fun v G2 h2 hw => ?_))
    obtain ⟨y2, rfl⟩ := hw
    exact jz_eq (fun _ => u255_373) (fin h2)
  · refine jz_eq (fun _ => u255_33_7) (jz_eq (fun _ => u255_377  (st_t2 st)) (jz_call (zCj (z102 (jK_refl hG.1)) hG) (fun v G1 h1 hv => ?_)))
    obtain ⟨y, rfl⟩ := hv
    have st := h1.1.1
    refine jz_eq (fun _ => u255_381  (st_t180 st)) (jz_call (zMj (z212 (jPH_refl h1)) h1) (fun v G2 h2 hw => ?_))
    obtain ⟨y2, rfl⟩ := hw
    exact jz_eq (fun _ => u255_386) (fin h2)
  · obtain ⟨ans, hx, hy⟩ := jb_h8 (xs (Int32.toNatClampNeg (nI m + 1))) (xs (Int32.toNatClampNeg (nI m + 2))) (xs (Int32.toNatClampNeg (nI m + 3))) (xs (Int32.toNatClampNeg (nI m + 4)))
    refine jz_eq (fun _ => u255_33_8) (jz_eq (fun _ => u255_390 in1 in2 in3 in4 (st_t2 st)) (jz_call (zC hx hG) (fun v G1 h1 hv => ?_)))
    obtain rfl := hv
    have st := h1.1.1
    refine jz_eq (fun _ => u255_414 in1 in2 in3 in4 (st_t180 st)) (jz_call (zM hy h1) (fun v G2 h2 hw => ?_))
    obtain rfl := hw
    exact jz_eq (fun _ => u255_439) (fin h2)
  · obtain ⟨ans, hx, hy⟩ := jb_h9 (xs (Int32.toNatClampNeg (nI m + 1))) (xs (Int32.toNatClampNeg (nI m + 2))) (xs (Int32.toNatClampNeg (nI m + 3))) (xs (Int32.toNatClampNeg (nI m + 4))) (xs (Int32.toNatClampNeg (nI m + 5)))
    refine jz_eq (fun _ => u255_33_9) (jz_eq (fun _ => u255_443 in1 in2 in3 in4 in5 (st_t2 st)) (jz_call (zC hx hG) (fun v G1 h1 hv => ?_)))
    obtain rfl := hv
    have st := h1.1.1
    refine jz_eq (fun _ => u255_472 in1 in2 in3 in4 in5 (st_t180 st)) (jz_call (zM hy h1) (fun v G2 h2 hw => ?_))
    obtain rfl := hw
    exact jz_eq (fun _ => u255_502) (fin h2)
  · obtain ⟨ans, hx, hy⟩ := jb_h10 (xs (Int32.toNatClampNeg (nI m + 1))) (xs (Int32.toNatClampNeg (nI m + 2))) (xs (Int32.toNatClampNeg (nI m + 3))) (xs (Int32.toNatClampNeg (nI m + 4))) (xs (Int32.toNatClampNeg (nI m + 5)))
    refine jz_eq (fun _ => u255_33_10) (jz_eq (fun _ => u255_506 in1 in2 in3 in4 in5 (st_t2 st)) (jz_call (zC hx hG) (fun v G1 h1 hv => ?_)))
    obtain rfl := hv
    have st := h1.1.1
    refine jz_eq (fun _ => u255_535 in1 in2 in3 in4 in5 (st_t180 st)) (jz_call (zM hy h1) (fun v G2 h2 hw => ?_))
    obtain rfl := hw
    exact jz_eq (fun _ => u255_565) (fin h2)
  · obtain ⟨ans, hx, hy⟩ := jb_h11 (xs (Int32.toNatClampNeg (nI m + 1))) (xs (Int32.toNatClampNeg (nI m + 2))) (xs (Int32.toNatClampNeg (nI m + 3)))
    refine jz_eq (fun _ => u255_33_11) (jz_eq (fun _ => u255_569 in1 in2 in3 (st_t2 st)) (jz_call (zC hx hG) (fun v G1 h1 hv => ?_)))
    obtain rfl := hv
    have st := h1.1.1
    refine jz_eq (fun _ => u255_588 in1 in2 in3 (st_t180 st)) (jz_call (zM hy h1) (fun v G2 h2 hw => ?_))
    obtain rfl := hw
    exact jz_eq (fun _ => u255_608) (fin h2)
  · obtain ⟨ans, hx, hy⟩ := jb_h12 (xs (Int32.toNatClampNeg (nI m + 1))) (xs (Int32.toNatClampNeg (nI m + 2))) (xs (Int32.toNatClampNeg (nI m + 3))) (xs (Int32.toNatClampNeg (nI m + 4))) (xs (Int32.toNatClampNeg (nI m + 5)))
    refine jz_eq (fun _ => u255_33_12) (jz_eq (fun _ => u255_612 in1 in2 in3 in4 in5 (st_t2 st)) (jz_call (zC hx hG) (fun v G1 h1 hv => ?_)))
    obtain rfl := hv
    have st := h1.1.1
    refine jz_eq (fun _ => u255_641 in1 in2 in3 in4 in5 (st_t180 st)) (jz_call (zM hy h1) (fun v G2 h2 hw => ?_))
    obtain rfl := hw
    exact jz_eq (fun _ => u255_671) (fin h2)
  · obtain ⟨ans, hx, hy⟩ := jb_h13 (xs (Int32.toNatClampNeg (nI m + 1))) (xs (Int32.toNatClampNeg (nI m + 2))) (xs (Int32.toNatClampNeg (nI m + 3))) (xs (Int32.toNatClampNeg (nI m + 4)))
    refine jz_eq (fun _ => u255_33_13) (jz_eq (fun _ => u255_675 in1 in2 in3 in4 (st_t2 st)) (jz_call (zC hx hG) (fun v G1 h1 hv => ?_)))
    obtain rfl := hv
    have st := h1.1.1
    refine jz_eq (fun _ => u255_699 in1 in2 in3 in4 (st_t180 st)) (jz_call (zM hy h1) (fun v G2 h2 hw => ?_))
    obtain rfl := hw
    exact jz_eq (fun _ => u255_724) (fin h2)
  · obtain ⟨ans, hx, hy⟩ := jb_h14 (xs (Int32.toNatClampNeg (nI m + 1))) (xs (Int32.toNatClampNeg (nI m + 2))) (xs (Int32.toNatClampNeg (nI m + 3))) (xs (Int32.toNatClampNeg (nI m + 4)))
    refine jz_eq (fun _ => u255_33_14) (jz_eq (fun _ => u255_728 in1 in2 in3 in4 (st_t2 st)) (jz_call (zC hx hG) (fun v G1 h1 hv => ?_)))
    obtain rfl := hv
    have st := h1.1.1
    refine jz_eq (fun _ => u255_752 in1 in2 in3 in4 (st_t180 st)) (jz_call (zM hy h1) (fun v G2 h2 hw => ?_))
    obtain rfl := hw
    exact jz_eq (fun _ => u255_777) (fin h2)
  · obtain ⟨ans, hx, hy⟩ := jb_h15 (xs (Int32.toNatClampNeg (nI m + 1))) (xs (Int32.toNatClampNeg (nI m + 2))) (xs (Int32.toNatClampNeg (nI m + 3))) (xs (Int32.toNatClampNeg (nI m + 4)))
    refine jz_eq (fun _ => u255_33_15) (jz_eq (fun _ => u255_781 in1 in2 in3 in4 (st_t2 st)) (jz_call (zC hx hG) (fun v G1 h1 hv => ?_)))
    obtain rfl := hv
    have st := h1.1.1
    refine jz_eq (fun _ => u255_805 in1 in2 in3 in4 (st_t180 st)) (jz_call (zM hy h1) (fun v G2 h2 hw => ?_))
    obtain rfl := hw
    exact jz_eq (fun _ => u255_830) (fin h2)
  · obtain ⟨ans, hx, hy⟩ := jb_h16 (xs (Int32.toNatClampNeg (nI m + 1))) (xs (Int32.toNatClampNeg (nI m + 2))) (xs (Int32.toNatClampNeg (nI m + 3))) (xs (Int32.toNatClampNeg (nI m + 4))) (xs (Int32.toNatClampNeg (nI m + 5)))
    refine jz_eq (fun _ => u255_33_16) (jz_eq (fun _ => u255_834 in1 in2 in3 in4 in5 (st_t2 st)) (jz_call (zC hx hG) (fun v G1 h1 hv => ?_)))
    obtain rfl := hv
    have st := h1.1.1
    refine jz_eq (fun _ => u255_863 in1 in2 in3 in4 in5 (st_t180 st)) (jz_call (zM hy h1) (fun v G2 h2 hw => ?_))
    obtain rfl := hw
    exact jz_eq (fun _ => u255_893) (fin h2)
  · obtain ⟨ans, hx, hy⟩ := jb_h17 (xs (Int32.toNatClampNeg (nI m + 1))) (xs (Int32.toNatClampNeg (nI m + 2))) (xs (Int32.toNatClampNeg (nI m + 3))) (xs (Int32.toNatClampNeg (nI m + 4)))
    refine jz_eq (fun _ => u255_33_17) (jz_eq (fun _ => u255_897 in1 in2 in3 in4 (st_t2 st)) (jz_call (zC hx hG) (fun v G1 h1 hv => ?_)))
    obtain rfl := hv
    have st := h1.1.1
    refine jz_eq (fun _ => u255_921 in1 in2 in3 in4 (st_t180 st)) (jz_call (zM hy h1) (fun v G2 h2 hw => ?_))
    obtain rfl := hw
    exact jz_eq (fun _ => u255_946) (fin h2)
  · obtain ⟨ans, hx, hy⟩ := jb_h18 (xs (Int32.toNatClampNeg (nI m + 1))) (xs (Int32.toNatClampNeg (nI m + 2))) (xs (Int32.toNatClampNeg (nI m + 3))) (xs (Int32.toNatClampNeg (nI m + 4))) (xs (Int32.toNatClampNeg (nI m + 5)))
    refine jz_eq (fun _ => u255_33_18) (jz_eq (fun _ => u255_950 in1 in2 in3 in4 in5 (st_t2 st)) (jz_call (zC hx hG) (fun v G1 h1 hv => ?_)))
    obtain rfl := hv
    have st := h1.1.1
    refine jz_eq (fun _ => u255_979 in1 in2 in3 in4 in5 (st_t180 st)) (jz_call (zM hy h1) (fun v G2 h2 hw => ?_))
    obtain rfl := hw
    exact jz_eq (fun _ => u255_1009) (fin h2)
  · refine jz_eq (fun _ => u255_33_19) (jz_eq (fun _ => u255_1013 in1 (st_t2 st)) (jz_call (zCj (z145 (jK_refl hG.1)) hG) (fun v G1 h1 hv => ?_)))
    obtain ⟨y, rfl⟩ := hv
    have st := h1.1.1
    refine jz_eq (fun _ => u255_1022 in1 (st_t180 st)) (jz_call (zMj (z246 (jPH_refl h1)) h1) (fun v G2 h2 hw => ?_))
    obtain ⟨y2, rfl⟩ := hw
    exact jz_eq (fun _ => u255_1032) (fin h2)
  · obtain ⟨ans, hx, hy⟩ := jb_h20 (xs (Int32.toNatClampNeg (nI m + 1))) (xs (Int32.toNatClampNeg (nI m + 2))) (xs (Int32.toNatClampNeg (nI m + 3))) (xs (Int32.toNatClampNeg (nI m + 4)))
    refine jz_eq (fun _ => u255_33_20) (jz_eq (fun _ => u255_1036 in1 in2 in3 in4 (st_t2 st)) (jz_call (zC hx hG) (fun v G1 h1 hv => ?_)))
    obtain rfl := hv
    have st := h1.1.1
    refine jz_eq (fun _ => u255_1060 in1 in2 in3 in4 (st_t180 st)) (jz_call (zM hy h1) (fun v G2 h2 hw => ?_))
    obtain rfl := hw
    exact jz_eq (fun _ => u255_1085) (fin h2)
  · obtain ⟨ans, hx, hy⟩ := jb_h21 (xs (Int32.toNatClampNeg (nI m + 1))) (xs (Int32.toNatClampNeg (nI m + 2))) (xs (Int32.toNatClampNeg (nI m + 3))) (xs (Int32.toNatClampNeg (nI m + 4))) (xs (Int32.toNatClampNeg (nI m + 5)))
    refine jz_eq (fun _ => u255_33_21) (jz_eq (fun _ => u255_1089 in1 in2 in3 in4 in5 (st_t2 st)) (jz_call (zC hx hG) (fun v G1 h1 hv => ?_)))
    obtain rfl := hv
    have st := h1.1.1
    refine jz_eq (fun _ => u255_1118 in1 in2 in3 in4 in5 (st_t180 st)) (jz_call (zM hy h1) (fun v G2 h2 hw => ?_))
    obtain rfl := hw
    exact jz_eq (fun _ => u255_1148) (fin h2)
  · refine jz_eq (fun _ => u255_33_22) (jz_eq (fun _ => u255_1152 in1 in2 (st_t2 st)) (jz_call (zCj (z147 (jK_refl hG.1)) hG) (fun v G1 h1 hv => ?_)))
    obtain ⟨y, rfl⟩ := hv
    have st := h1.1.1
    refine jz_eq (fun _ => u255_1166 in1 in2 (st_t180 st)) (jz_call (zMj (z247 hc (jPH_refl h1)) h1) (fun v G2 h2 hw => ?_))
    obtain ⟨y2, rfl⟩ := hw
    exact jz_eq (fun _ => u255_1181) (fin h2)
  · obtain ⟨ans, hy⟩ := jb_M248 (xs (Int32.toNatClampNeg (nI m + 1))) (xs (Int32.toNatClampNeg (nI m + 2))) (xs (Int32.toNatClampNeg (nI m + 3)))
    refine jz_eq (fun _ => u255_33_23) (jz_eq (fun _ => u255_1185 in1 in2 in3 (st_t2 st)) (jz_call (zCj (z143 (jK_refl hG.1)) hG) (fun v G1 h1 hv => ?_)))
    obtain ⟨y, rfl⟩ := hv
    have st := h1.1.1
    refine jz_eq (fun _ => u255_1204 in1 in2 in3 (st_t180 st)) (jz_call (zM hy h1) (fun v G2 h2 hw => ?_))
    obtain rfl := hw
    exact jz_eq (fun _ => u255_1224) (fin h2)
  · refine jz_eq (fun _ => u255_33_24) (jz_eq (fun _ => u255_1228 in1 in2 (st_t2 st)) (jz_call (zCj (z148 (jK_refl hG.1)) hG) (fun v G1 h1 hv => ?_)))
    obtain ⟨y, rfl⟩ := hv
    have st := h1.1.1
    refine jz_eq (fun _ => u255_1242 in1 in2 (st_t180 st)) (jz_call (zMj (z249 (jPH_refl h1)) h1) (fun v G2 h2 hw => ?_))
    obtain ⟨y2, rfl⟩ := hw
    exact jz_eq (fun _ => u255_1257) (fin h2)
  · obtain ⟨ans, hx, hy⟩ := hold_both (S := some (L, xs)) (xs (Int32.toNatClampNeg (nI m + 1)))
    refine jz_eq (fun _ => u255_33_25) (jz_eq (fun _ => u255_1261 in1 (st_t2 st)) (jz_call (zCj (hx (jK_refl hG.1)) hG) (fun v G1 h1 hv => ?_)))
    obtain rfl := hv
    have st := h1.1.1
    refine jz_eq (fun _ => u255_1270 in1 (st_t180 st)) (jz_call (zMj (hy (jPH_refl h1)) h1) (fun v G2 h2 hw => ?_))
    obtain rfl := hw
    exact jz_eq (fun _ => u255_1279) (jz_if (fun _ => fin h2) (fun g => absurd rfl g))
  · refine jz_eq (fun _ => u255_33_26) (jz_eq (fun _ => u255_1284 in1 (st_t2 st)) (jz_call (zCj (z106 (jK_refl hG.1)) hG) (fun v G1 h1 hv => ?_)))
    obtain ⟨y, rfl⟩ := hv
    have st := h1.1.1
    refine jz_eq (fun _ => u255_1293 in1 (st_t180 st)) (jz_call (zMj (z215 (jPH_refl h1)) h1) (fun v G2 h2 hw => ?_))
    obtain ⟨y2, rfl⟩ := hw
    exact jz_eq (fun _ => u255_1303) (fin h2)
  · refine jz_eq (fun _ => u255_33_27) (jz_eq (fun _ => u255_1307 in1 (st_t2 st)) (jz_call (zCj (z149 (jK_refl hG.1)) hG) (fun v G1 h1 hv => ?_)))
    obtain ⟨y, rfl⟩ := hv
    have st := h1.1.1
    refine jz_eq (fun _ => u255_1316 in1 (st_t180 st)) (jz_call (zMj (z250 hc (jPH_refl h1)) h1) (fun v G2 h2 hw => ?_))
    obtain ⟨y2, rfl⟩ := hw
    exact jz_eq (fun _ => u255_1326) (fin h2)
theorem law_loop (hL : L ≤ 3072) : ∀ (d c : Nat) {G : jm_H}, c + d = 513 → jA c G → jz jl_lo (fun v => v = some (.int 1)) (fun Q => jm_w (some (L, xs)) 49 255 18 [.ref 1, .ref 2, .ref 180, .int (nI (6 * c))] [] G Q) := by
  have hcond : ∀ {m : Nat}, m ≤ 4000 → ¬ (Int32.ofNat L - 6 < nI m) → m + 6 ≤ L := by
    intro m hm h
    refine Nat.le_of_not_lt (fun g => h ?_)
    show nI L - 6 < nI m
    rw [jI_n, jI_n, show (6 : Int32) = jI 6 from by decide, jI_sub]
    exact (jI_lt ⟨by omega, by omega⟩ ⟨by omega, by omega⟩).mpr (by omega)
  intro d
  induction d with
  | zero =>
    intro c G hd hG
    refine jz_eq (fun _ => u255_18) (jz_if (fun _ => ?_) (fun g => ?_))
    · exact jz_eq (fun _ => u255_1336) (jz_end (jl_lo_st hG.1.1) rfl)
    · have := hcond (by omega) g
      omega
  | succ d ih =>
    intro c G hd hG
    refine jz_eq (fun _ => u255_18) (jz_if (fun _ => ?_) (fun g => ?_))
    · exact jz_eq (fun _ => u255_1336) (jz_end (jl_lo_st hG.1.1) rfl)
    · have hm := hcond (by omega) g
      have ha := and31 (xs (Int32.toNatClampNeg (nI (6 * c))))
      obtain ⟨op, ho, eo⟩ := ji_nn (k := 32) ha.1 ha.2
      refine jz_eq (fun _ => u255_27 (nI_inK (by omega) (by omega))) ?_
      rw [eo]
      refine law_one hm hL (by omega) ho hG (fun {G'} h' => ?_)
      have e6 : nI (6 * c) + (6 : Int32) = nI (6 * (c + 1)) := nI_addN (6 * c) 6
      rw [e6]
      exact ih (c + 1) (by omega) h'
end LAW4
theorem jA_G : jA 0 jm_G := by
  have h0 : jm_I jm_G 180 2 = 0 ∧ jm_I jm_G 180 25 = 0 ∧ ∀ s, s < 3 → jm_I jm_G 204 s = 0 := by decide +kernel
  obtain ⟨g1, g2, g3, g4, g5⟩ := js_m_G
  refine ⟨jk_G, 0, ⟨jm_G_st, ⟨0, by decide, h0.1⟩, ⟨8, 1, 0, by decide, by decide, by decide, g1, g2, g3 2 (by decide) (by decide), fun k hk => ?_, Nat.zero_le _⟩, ⟨0, 0, by decide, by decide, g4, g5, fun j hj => absurd hj (Nat.not_lt_zero j)⟩, fun s hs => Or.inl (h0.2.2 s hs), by decide, h0.2.1, fun j hj => absurd hj (Nat.not_lt_zero j)⟩, 8, by decide, g1, fun j hj => absurd hj (Nat.not_lt_zero j)⟩
  rw [g3 _ (by omega) (by omega), show (0 : Int).natAbs = 0 from rfl, jq_d0]
  rfl
theorem jl_run {L : Nat} (hL : L ≤ 3072) (xs : Nat → Int32) : jm_w (some (L, xs)) 49 255 18 [.ref 1, .ref 2, .ref 180, .int 0] [] jm_G jl_Q := by
  obtain ⟨v, H1, hk, rfl, hq⟩ := law_loop (xs := xs) hL 513 0 (by decide) jA_G
  exact cast (hq jl_Q).symm (jl_endQ hk)
