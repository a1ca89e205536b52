section JHM
variable {p : Program} {l : Launch} {e : Env} {R : Room} {s : State} {m : MethodId} {args : Array Value} {below : List Frame} {meth : Method} {c : Code} {M : Heap} {locs : List Loc} {cells slots : Nat} {Q : State → Prop}
variable {pc : Nat} {A : Array Slot} {base b L : Nat} {xs : Nat → Int32} {H00 : Heap} {D : va_G} {dA : Nat → ClassId} {mi : Nat} {H : jm_H}
theorem jm_lnk_own {idx : Nat} {e : Nat × Nat × Nat × Int} (hm : jm_xm mi = true) (h : jm_rs (jm_ci mi) idx = some e) : (∀ w ∈ jm_wd (jm_y mi).cls idx e, w ∈ jm_tb) ∧ ∃ ps, jm_xk (jm_ci mi) (idx, e, ps) = true := by
  have := jm_lnk h
  rw [jm_xm_own hm] at this
  exact this
theorem jm_rv_of {ins : Instr} {idx : Nat} (hi : jm_ix ins = some idx) (h : (jm_rv mi ins).1 ≠ 99) : jm_rs (jm_ci mi) idx = some (jm_rv mi ins) := by
  unfold jm_rv at h ⊢
  rw [hi] at h ⊢
  dsimp only at h ⊢
  cases hr : jm_rs (jm_ci mi) idx with
  | none => rw [hr] at h; exact absurd rfl h
  | some e => rfl
/-- a link's facts, by its kind -/
theorem jm_link {ins : Instr} {idx k : Nat} (hm : jm_xm mi = true) (hi : jm_ix ins = some idx) (hk : (jm_rv mi ins).1 = k) (hk9 : k < 99) : (∀ w ∈ jm_wd (jm_y mi).cls idx (jm_rv mi ins), w ∈ jm_tb) ∧ ∃ ps, jm_xk (jm_ci mi) (idx, jm_rv mi ins, ps) = true :=
  jm_lnk_own hm (jm_rv_of hi (by rw [hk]; omega))
theorem jm_xk0 {ci idx : Nat} {e : Nat × Nat × Nat × Int} {ps : List Nat} (h : jm_xk ci (idx, e, ps) = true) (h0 : e.1 = 0) : e.2.1 < 13 ∧ e.2.2.1 < jm_N e.2.1 := by
  unfold jm_xk at h
  rw [Bool.and_eq_true] at h
  have h2 := h.2
  dsimp only at h2
  rw [h0] at h2
  simpa using h2
theorem jm_xk6 {ci idx : Nat} {e : Nat × Nat × Nat × Int} {ps : List Nat} (h : jm_xk ci (idx, e, ps) = true) (h0 : e.1 = 6) : e.2.1 < 13 ∧ e.2.2.1 = jm_N e.2.1 := by
  unfold jm_xk at h
  rw [Bool.and_eq_true] at h
  have h2 := h.2
  dsimp only at h2
  rw [h0] at h2
  simpa using h2
theorem jm_xk7 {ci idx : Nat} {e : Nat × Nat × Nat × Int} {ps : List Nat} (h : jm_xk ci (idx, e, ps) = true) (h0 : e.1 = 7) : (e.2.1 = 104 ∧ e.2.2.1 = 6) ∨ (e.2.1 = 105 ∧ e.2.2.1 = 5) := by
  unfold jm_xk at h
  rw [Bool.and_eq_true] at h
  have h2 := h.2
  dsimp only at h2
  rw [h0] at h2
  simpa using h2
/-- the start of a fresh array or object: all zero -/
theorem jm_mk_I (H : jm_H) (t len sl : Nat) : jm_I (jm_mk H t len sl) (jm_n H + 2) = fun _ => 0 := by
  funext j
  show cond (Nat.beq (jm_n H + 2) (jm_n H + 2)) _ _ = _
  rw [Nat.beq_refl]; rfl
theorem jm_mk_L (H : jm_H) (t len sl : Nat) : jm_L (jm_mk H t len sl) (jm_n H + 2) = fun _ => 0 := by
  funext j
  show cond (Nat.beq (jm_n H + 2) (jm_n H + 2)) _ _ = _
  rw [Nat.beq_refl]; rfl
theorem jm_mk_R (H : jm_H) (t len sl : Nat) : jm_R (jm_mk H t len sl) (jm_n H + 2) = fun _ => 0 := by
  funext j
  show cond (Nat.beq (jm_n H + 2) (jm_n H + 2)) _ _ = _
  rw [Nat.beq_refl]; rfl
theorem jm_mk_tg (H : jm_H) (t len sl : Nat) : jm_tg (jm_mk H t len sl) (jm_n H + 2) = t := by
  show cond (Nat.beq (jm_n H + 2) (jm_n H + 2)) _ _ = _
  rw [Nat.beq_refl]; rfl
theorem jm_mk_ln (H : jm_H) (t len sl : Nat) : jm_ln (jm_mk H t len sl) (jm_n H + 2) = len := by
  show cond (Nat.beq (jm_n H + 2) (jm_n H + 2)) _ _ = _
  rw [Nat.beq_refl]; rfl
theorem jm_ad_new (base b n : Nat) : jm_ad base b (n + 2) = base + n := by
  unfold jm_ad
  rw [if_neg (by omega)]
  omega
set_option maxHeartbeats 2000000 in
theorem jm_newa_s {t : Nat} {at_ : ArrayType} {n : Int32} {rest : List Value} (C : jm_Cx D dA base b L xs H00 mi p s m args meth c) (hW : jm_W0 D dA base b H00 M H) (ht : t < 4) (hty : newarray.typeOf at_ = jm_aty t) (hw : Cond.arrayClass (newarray.typeOf at_) ∈ jm_tb)
    (hn : ¬ n < 0) (hN : n.toNatClampNeg ≤ 60000000) (hc : cells + 1 ≤ R.cells) (hs : slots + n.toNatClampNeg ≤ R.slots) (hdg : decode (jm_b mi) pc = .ok (.newarray at_, 2))
    (kk : ∀ M' : Heap, jm_W0 D dA base b H00 M' (jm_mk H (100 + t) n.toNatClampNeg n.toNatClampNeg) → W p l e R s m args below meth c M' locs (cells + 1) (slots + n.toNatClampNeg) Q (F0 m (pc + 2) A (.ref (jm_ad base b (jm_n H + 2)) :: rest))) : W p l e R s m args below meth c M locs cells slots Q (F0 m pc A (.int n :: rest)) := by
  obtain ⟨hx, hb, -, -, hown, hts, -, -, hK, -⟩ := C
  have hby : n.toNatClampNeg * componentBytes (newarray.typeOf at_) ≤ 536870912 := by
    have : componentBytes (newarray.typeOf at_) ≤ 8 := by cases at_ <;> decide
    calc n.toNatClampNeg * componentBytes (newarray.typeOf at_) ≤ 60000000 * 8 := Nat.mul_le_mul hN this
      _ ≤ 536870912 := by decide
  refine va_newaK hx hb (hts _ hw) rfl hdg rfl hn rfl hby hc hs rfl fun M' cA e1 z1 o1 hAr hNm => ?_
  have hcA : cA = dA t := by
    have h2 := (hK.1.2 t _ (jm_tys_at (by omega))).2
    rw [hty] at hNm
    match t, ht with
    | 0, _ => exact Option.some.inj (hNm.symm.trans h2)
    | 1, _ => exact Option.some.inj (hNm.symm.trans h2)
    | 2, _ => exact Option.some.inj (hNm.symm.trans h2)
    | 3, _ => exact Option.some.inj (hNm.symm.trans h2)
  subst hcA
  have hk := kk M' (hW.add (Or.inr (by omega)) z1 o1 ?_)
  · rw [jm_ad_new, ← hW.1] at hk
    exact hk
  · rw [jm_ob_a (by rw [jm_mk_tg])]
    show M'[M.size]? = some (vp_cell _ _)
    rw [e1, jm_mk_ln, hty]
    match t, ht with
    | 0, _ => rw [jm_ar_i (by omega), jm_mk_I]; rfl
    | 1, _ => rw [jm_ar_l, jm_mk_L]; rfl
    | 2, _ => rw [jm_ar_i (by omega), jm_mk_I]; rfl
    | 3, _ => rw [jm_ar_i (by omega), jm_mk_I]; rfl
set_option maxHeartbeats 2000000 in
theorem jm_newq_s {t idx ci : Nat} {n : Int32} {rest : List Value} (C : jm_Cx D dA base b L xs H00 mi p s m args meth c) (hW : jm_W0 D dA base b H00 M H) (ht : (t = 4 ∧ ci = 6) ∨ (t = 5 ∧ ci = 5)) (hw1 : Cond.classLink (jm_y mi).cls idx (jm_C ci) ∈ jm_tb) (hw2 : Cond.arrayOver (.object (jm_C ci)) ∈ jm_tb)
    (hn : ¬ n < 0) (hN : n.toNatClampNeg ≤ 60000000) (hc : cells + 1 ≤ R.cells) (hs : slots + n.toNatClampNeg ≤ R.slots) (hdg : decode (jm_b mi) pc = .ok (.anewarray idx, 3))
    (kk : ∀ M' : Heap, jm_W0 D dA base b H00 M' (jm_mk H (100 + t) n.toNatClampNeg n.toNatClampNeg) → W p l e R s m args below meth c M' locs (cells + 1) (slots + n.toNatClampNeg) Q (F0 m (pc + 3) A (.ref (jm_ad base b (jm_n H + 2)) :: rest))) : W p l e R s m args below meth c M locs cells slots Q (F0 m pc A (.int n :: rest)) := by
  obtain ⟨hx, hb, -, -, hown, hts, -, -, hK, -⟩ := C
  refine W.anew hx hb hown (hts _ hw1) (hts _ hw2) rfl hdg rfl hn (by omega) hc hs fun cA kA comp f1 f2 f3 f4 => ?_
  generalize hH1 : M.push ({ cls := cA, slots := Array.replicate n.toNatClampNeg .null, vm := .none } : Cell) = M'
  have z1 : M'.size = M.size + 1 := by rw [← hH1, Array.size_push]
  have e1 : M'[M.size]? = some (arrV cA n.toNatClampNeg (fun _ => .null)) := by rw [← hH1, Array.getElem?_push_size, ← arrV_new]
  have o1 : ∀ q : Nat, q < M.size → M'[q]? = M[q]? := fun q hq => by rw [← hH1, Array.getElem?_push, if_neg (Nat.ne_of_lt hq)]
  have hcA : cA = dA t := by
    obtain ⟨kA', comp', g1, g2, g3, g4⟩ : va_RA s (dA t) (.object (jm_C ci)) := by
      have h2 := (hK.1.2 t _ (jm_tys_at (by omega))).2
      rcases ht with ⟨rfl, rfl⟩ | ⟨rfl, rfl⟩ <;> exact h2
    exact Option.some.inj (f1.symm.trans g4)
  subst hcA
  have hk := kk M' (hW.add (Or.inr (by omega)) z1 o1 ?_)
  · rw [jm_ad_new, ← hW.1] at hk
    exact hk
  · rw [jm_ob_a (by rw [jm_mk_tg])]
    show M'[M.size]? = some (vp_cell _ _)
    rw [e1, jm_mk_ln, jm_ar_q (by omega), jm_mk_R]
    rfl
theorem jm_ft9_ok : (List.range 13).all (fun ci => (List.range (jm_N ci)).all fun k => !(jm_ft ci k == 9)) = true := by decide +kernel
theorem jm_ft9 {ci k : Nat} (h : ci < 13) (hk : k < jm_N ci) : ¬ jm_ft ci k = 9 := by
  have h1 := List.all_eq_true.mp jm_ft9_ok ci (List.mem_range.mpr h)
  have h2 := List.all_eq_true.mp h1 k (List.mem_range.mpr hk)
  simpa using h2
theorem jm_dv {ci k : Nat} (hci : ci < 13) (hk : k < jm_N ci) {H : jm_H} {r : Nat} (hI : jm_I H r = fun _ => 0) (hL : jm_L H r = fun _ => 0) (hR : jm_R H r = fun _ => 0) : defaultValue (jm_ty ci k) = jm_cv base b (jm_fv H r ci k) := by
  have h := jm_tc_at hci hk
  unfold jm_fv
  rw [hI, hL, hR, ← h]
  generalize hT : jm_ty ci k = T at h ⊢
  cases T <;> try rfl
  all_goals (exfalso)
  all_goals (have h3 : jm_ft ci k = 9 := by rw [← h]; rfl)
  all_goals exact absurd h3 (jm_ft9 hci hk)
set_option maxHeartbeats 2000000 in
theorem jm_new_s {idx ci : Nat} {rest : List Value} (C : jm_Cx D dA base b L xs H00 mi p s m args meth c) (hW : jm_W0 D dA base b H00 M H) (hci : ci < 13) (hw1 : Cond.classLink (jm_y mi).cls idx (jm_C ci) ∈ jm_tb) (hw2 : Cond.instantiable (jm_C ci) (jm_N ci) ∈ jm_tb) (hw3 : Cond.initialized (jm_C ci) ∈ jm_tb)
    (hc : cells + 1 ≤ R.cells) (hs : slots + jm_N ci ≤ R.slots) (hdg : decode (jm_b mi) pc = .ok (.new idx, 3))
    (kk : ∀ M' : Heap, jm_W0 D dA base b H00 M' (jm_mk H (ci + 1) 0 (jm_N ci)) → W p l e R s m args below meth c M' locs (cells + 1) (slots + jm_N ci) Q (F0 m (pc + 3) A (.ref (jm_ad base b (jm_n H + 2)) :: rest))) : W p l e R s m args below meth c M locs cells slots Q (F0 m pc A rest) := by
  obtain ⟨hx, hb, -, -, hown, hts, -, -, hK, -⟩ := C
  have hKn := hK.1.1 ci _ (jm_cl_at hci)
  refine W.newcK hx hb hown (hts _ hw1) (hts _ hw2) (hts _ hw3) rfl hdg hc hs hKn.2.1 rfl fun M' kC hkC e1 z1 o1 => ?_
  have hk := kk M' (hW.add (Or.inl (by omega)) z1 o1 ?_)
  · rw [jm_ad_new, ← hW.1] at hk
    exact hk
  · rw [jm_ob_o (by rw [jm_mk_tg]) hci]
    refine ⟨_, jm_cl_at hci, (u_born (jm_ty ci) hts (jm_lay_in hci) hKn hkC e1 (jm_cl_ok hci).2).to (fun j hj => ?_)⟩
    show _ = vp_V (jm_fs base b _ _ ci) j
    rw [jm_fs_V hj]
    exact jm_dv hci hj (jm_mk_I _ _ _ _) (jm_mk_L _ _ _ _) (jm_mk_R _ _ _ _)
end JHM
