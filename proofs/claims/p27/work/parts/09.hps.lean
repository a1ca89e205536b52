section JHS
variable {p : Program} {l : Launch} {e : Env} {R : Room} {s : State} {m : MethodId} {args : Array Value} {below : List Frame} {meth : Method} {c : Code} {M : Heap} {locs : List Loc} {cells slots : Nat} {Q : State → Prop}
variable {pc : Nat} {A : Array Slot} {base b L : Nat} {xs : Nat → Int32} {H00 : Heap} {D : va_G} {dA : Nat → ClassId} {mi : Nat} {H : jm_H}
theorem jm_opx : jm_op.map (fun p => lw_tbl[p]?) = ([.code Lib.objectInit object_method_1_code 1 none, .instanceMethod Lib.objectInit, .arrayClass .int, .arrayClass .long, .arrayClass .byte, .arrayClass .boolean, .arrayOver (.object "TaperedNumbers$State"), .arrayOver (.object "TaperedNumbers$Slot")] : List Jvm.Cond).map some := by decide +kernel
theorem jm_ac0 : Cond.arrayClass (newarray.typeOf .int) ∈ jm_tb := jm_tb_in (jm_plc jm_opx _ (List.mem_of_getElem? (i := 2) rfl)) rfl
theorem jm_ac1 : Cond.arrayClass (newarray.typeOf .long) ∈ jm_tb := jm_tb_in (jm_plc jm_opx _ (List.mem_of_getElem? (i := 3) rfl)) rfl
theorem jm_ac2 : Cond.arrayClass (newarray.typeOf .byte) ∈ jm_tb := jm_tb_in (jm_plc jm_opx _ (List.mem_of_getElem? (i := 4) rfl)) rfl
theorem jm_ac3 : Cond.arrayClass (newarray.typeOf .boolean) ∈ jm_tb := jm_tb_in (jm_plc jm_opx _ (List.mem_of_getElem? (i := 5) rfl)) rfl
theorem jm_wd0 {own : String} {idx : Nat} {e : Nat × Nat × Nat × Int} (h : e.1 = 0) : jm_wd own idx e = [.fieldLink own idx (jm_T e.2.1 e.2.2.1).1 (jm_T e.2.1 e.2.2.1).2.1 (jm_T e.2.1 e.2.2.1).2.2.1] := by unfold jm_wd; rw [h]; rfl
theorem jm_wd6 {own : String} {idx : Nat} {e : Nat × Nat × Nat × Int} (h : e.1 = 6) : jm_wd own idx e = [.classLink own idx (jm_C e.2.1), .instantiable (jm_C e.2.1) e.2.2.1, .initialized (jm_C e.2.1)] := by unfold jm_wd; rw [h]; rfl
theorem jm_wd7 {own : String} {idx : Nat} {e : Nat × Nat × Nat × Int} (h : e.1 = 7) : jm_wd own idx e = [.classLink own idx (jm_C e.2.2.1), .arrayOver (.object (jm_C e.2.2.1))] := by unfold jm_wd; rw [h]; rfl
theorem jm_wd8 {own : String} {idx : Nat} {e : Nat × Nat × Nat × Int} (h : e.1 = 8) : jm_wd own idx e = [.constant own idx (Int32.ofInt e.2.2.2)] := by unfold jm_wd; rw [h]; rfl
theorem jm_wd9 {own : String} {idx : Nat} {e : Nat × Nat × Nat × Int} (h : e.1 = 9) : jm_wd own idx e = [.constantLong own idx (Int64.ofInt e.2.2.2)] := by unfold jm_wd; rw [h]; rfl
theorem jm_gf_s {a k r : Nat} {q st' : List Value} {H' : jm_H} (h : jm_gf a k r q H = some (st', H')) : H' = H ∧ st' = jm_fv H r a k :: q := by
  unfold jm_gf at h
  unfold jm_fv
  split at h
  · next e => cases h; rw [e]; exact ⟨rfl, rfl⟩
  · next e => cases h; rw [e]; exact ⟨rfl, rfl⟩
  · next e => cases h; rw [e]; exact ⟨rfl, rfl⟩
  · next e =>
    split at h
    · cases h
    · next hr => cases h; rw [e]; exact ⟨rfl, by simp only [if_neg hr]⟩
  · cases h
/-- what a write of a field does to the object's values -/
theorem jm_fv_I {r a k j : Nat} {x : Int32} (hk : jm_ft a k = 0 ∨ jm_ft a k = 3) : jm_cv base b (jm_fv (jm_pI H r k x) r a j) = if j = k then .int x else jm_cv base b (jm_fv H r a j) := by
  by_cases e : j = k
  · subst e
    rw [if_pos rfl]
    unfold jm_fv
    rw [jm_upd_I]
    rcases hk with h | h <;> rw [h] <;> simp [jm_cv]
  · rw [if_neg e]
    unfold jm_fv
    rw [jm_upd_I]
    simp only [if_neg e]
    rfl
theorem jm_fv_L {r a k j : Nat} {x : Int64} (hk : jm_ft a k = 1) : jm_cv base b (jm_fv (jm_pL H r k x) r a j) = if j = k then .long x else jm_cv base b (jm_fv H r a j) := by
  by_cases e : j = k
  · subst e
    rw [if_pos rfl]
    unfold jm_fv
    rw [jm_upd_L, hk]
    simp [jm_cv]
  · rw [if_neg e]
    unfold jm_fv
    rw [jm_upd_L]
    simp only [if_neg e]
    rfl
theorem jm_fv_R {r a k j x : Nat} (hk : jm_ft a k = 2) (hx : ¬ x = 0) : jm_cv base b (jm_fv (jm_pR H r k x) r a j) = if j = k then .ref (jm_ad base b x) else jm_cv base b (jm_fv H r a j) := by
  by_cases e : j = k
  · subst e
    rw [if_pos rfl]
    unfold jm_fv
    rw [jm_upd_R, hk]
    simp [jm_cv, hx]
  · rw [if_neg e]
    unfold jm_fv
    rw [jm_upd_R]
    simp only [if_neg e]
    rfl
theorem jm_tc0 {T : FieldType} (h : jm_tc T = 0) : T = .int := by cases T <;> first | rfl | cases h
theorem jm_tc1 {T : FieldType} (h : jm_tc T = 1) : T = .long := by cases T <;> first | rfl | cases h
theorem jm_tc3 {T : FieldType} (h : jm_tc T = 3) : T = .boolean := by cases T <;> first | rfl | cases h
theorem jm_tc2 {T : FieldType} (h : jm_tc T = 2) (a : Nat) : narrow T (.ref a) = .ref a ∧ fits T (.ref a) = true := by cases T <;> first | exact ⟨rfl, rfl⟩ | cases h
theorem jm_b01 {x : Int32} (h : x = 0 ∨ x = 1) : narrow .boolean (.int x) = .int x ∧ fits .boolean (.int x) = true := by
  rcases h with rfl | rfl <;> exact ⟨by decide +kernel, by decide +kernel⟩
set_option maxHeartbeats 4000000 in
theorem jm_pf_s {a k : Nat} {idx : Nat} {st st' : List Value} {H' : jm_H} (C : jm_Cx D dA base b L xs H00 mi p s m args meth c) (hW : jm_W0 D dA base b H00 M H) (ha : a < 13) (hk : k < jm_N a)
    (hl : Cond.fieldLink (jm_y mi).cls idx (jm_T a k).1 (jm_T a k).2.1 (jm_T a k).2.2.1 ∈ jm_tb) (hdg : decode (jm_b mi) pc = .ok (.putfield idx, 3))
    (hfin : (jm_T a k).2.2.2 = true → (jm_y mi).name = "<init>" ∧ (jm_y mi).cls = (jm_T a k).1) (hlo : ∀ q ∈ locs, base ≤ q.base) (h : jm_pf a k st H = some (st', H'))
    (kk : ∀ (M' : Heap) (locs' : List Loc), jm_W0 D dA base b H00 M' H' → (∀ q ∈ locs', base ≤ q.base) → W p l e R s m args below meth c M' locs' cells slots Q (F0 m (pc + 3) A (st'.map (jm_cv base b)))) :
    (jm_n H' = jm_n H ∧ jm_s H' = jm_s H) ∧ W p l e R s m args below meth c M locs cells slots Q (F0 m pc A (st.map (jm_cv base b))) := by
  have htc := jm_tc_at ha hk
  unfold jm_pf at h
  split at h
  · next x r q e =>
    split at h
    · next ht =>
      cases h
      refine ⟨⟨rfl, rfl⟩, ?_⟩
      exact jm_put_s (H' := jm_pI H r k x) (v := .int x) C hW ht ha hk hl hdg hfin (by rw [jm_tc0 (htc.trans e)]; rfl) (by rw [jm_tc0 (htc.trans e)]; rfl) rfl rfl (fun r' hr' => jm_pI_ob H r k x hr') (fun j _ => jm_fv_I (Or.inl e)) hlo kk
    · cases h
  · next x r q e =>
    split at h
    · next ht =>
      cases h
      refine ⟨⟨rfl, rfl⟩, ?_⟩
      exact jm_put_s (H' := jm_pI H r k x) (v := .int x) C hW ht.1 ha hk hl hdg hfin (by rw [jm_tc3 (htc.trans e)]; exact (jm_b01 ht.2).1) (by rw [jm_tc3 (htc.trans e)]; exact (jm_b01 ht.2).2) rfl rfl (fun r' hr' => jm_pI_ob H r k x hr') (fun j _ => jm_fv_I (Or.inr e)) hlo kk
    · cases h
  · next x r q e =>
    split at h
    · next ht =>
      cases h
      refine ⟨⟨rfl, rfl⟩, ?_⟩
      exact jm_put_s (H' := jm_pL H r k x) (v := .long x) C hW ht ha hk hl hdg hfin (by rw [jm_tc1 (htc.trans e)]; rfl) (by rw [jm_tc1 (htc.trans e)]; rfl) rfl rfl (fun r' hr' => jm_pL_ob H r k x hr') (fun j _ => jm_fv_L e) hlo kk
    · cases h
  · next x r q e =>
    split at h
    · next ht =>
      cases h
      refine ⟨⟨rfl, rfl⟩, ?_⟩
      exact jm_put_s (H' := jm_pR H r k x) (v := .ref (jm_ad base b x)) C hW ht.1 ha hk hl hdg hfin (jm_tc2 (htc.trans e) _).1 (jm_tc2 (htc.trans e) _).2 rfl rfl (fun r' hr' => jm_pR_ob H r k x hr') (fun j _ => jm_fv_R e ht.2) hlo kk
    · cases h
  · cases h
theorem jm_xi_fin {a k : Nat} {idx : Nat} (h : jm_xi mi (pc, .putfield idx) = true) (ha : a < 13) (hk : k < jm_N a) (hr : (jm_rv mi (.putfield idx)).2.1 = a ∧ (jm_rv mi (.putfield idx)).2.2.1 = k) : (jm_T a k).2.2.2 = true → (jm_y mi).name = "<init>" ∧ (jm_y mi).cls = (jm_T a k).1 := by
  unfold jm_xi at h
  rw [Bool.and_eq_true] at h
  have h2 := h.2
  dsimp only at h2
  rw [hr.1, hr.2, jm_fin_at ha hk] at h2
  intro hF
  rw [hF] at h2
  simpa using h2
theorem jm_vin {i : Int32} {n : Nat} (h : ¬ (i < 0 ∨ n ≤ i.toNatClampNeg)) : vp_in i n := h
set_option maxHeartbeats 8000000 in
theorem jm_hp_s {ins : Instr} {st st' : List Value} {H' : jm_H} (C : jm_Cx D dA base b L xs H00 mi p s m args meth c) (hdg : decode (jm_b mi) pc = .ok (ins, jm_len ins)) (hxi : jm_xi mi (pc, ins) = true) (hW : jm_W0 D dA base b H00 M H) (hlo : ∀ q ∈ locs, base ≤ q.base)
    (h : jm_hp (some (L, xs)) ins (jm_rv mi ins) st H = some (st', H')) (hc : cells + (jm_n H' - jm_n H) ≤ R.cells) (hs : slots + (jm_s H' - jm_s H) ≤ R.slots)
    (kk : ∀ (M' : Heap) (locs' : List Loc), jm_W0 D dA base b H00 M' H' → (∀ q ∈ locs', base ≤ q.base) → W p l e R s m args below meth c M' locs' (cells + (jm_n H' - jm_n H)) (slots + (jm_s H' - jm_s H)) Q (F0 m (pc + jm_len ins) A (st'.map (jm_cv base b)))) :
    W p l e R s m args below meth c M locs cells slots Q (F0 m pc A (st.map (jm_cv base b))) := by
  have hm : jm_xm mi = true := C.2.2.2.2.2.2.2.2.2.1
  have hx := C.1
  have hb := C.2.1
  have hown := C.2.2.2.2.1
  have hts := C.2.2.2.2.2.1
  have hK := C.2.2.2.2.2.2.2.2.1
  have hbb : b < base := C.2.2.2.2.2.2.2.2.2.2.1
  have kk0 : jm_n H' = jm_n H → jm_s H' = jm_s H → ∀ (M' : Heap) (locs' : List Loc), jm_W0 D dA base b H00 M' H' → (∀ q ∈ locs', base ≤ q.base) → W p l e R s m args below meth c M' locs' cells slots Q (F0 m (pc + jm_len ins) A (st'.map (jm_cv base b))) := by
    intro e1 e2 M' locs' a1 a2
    have := kk M' locs' a1 a2
    rw [e1, e2, Nat.sub_self, Nat.sub_self] at this
    exact this
  have hX : M[b]? = H00[b]? := hW.2.2.1 b hbb
  unfold jm_hp at h
  split at h
  · split at h
    · next i h8 =>
      cases h
      have hw := (jm_link hm (ins := .ldc i) rfl h8 (by decide)).1
      rw [jm_wd8 h8] at hw
      exact lv_ldc hx hb hown (hts _ (hw _ List.mem_cons_self)) hdg (kk0 rfl rfl M locs hW hlo)
    · cases h
  · split at h
    · next i h8 =>
      cases h
      have hw := (jm_link hm (ins := .ldc_w i) rfl h8 (by decide)).1
      rw [jm_wd8 h8] at hw
      exact lv_ldcw hx hb hown (hts _ (hw _ List.mem_cons_self)) hdg (kk0 rfl rfl M locs hW hlo)
    · cases h
  · split at h
    · next i h8 =>
      cases h
      have hw := (jm_link hm (ins := .ldc2_w i) rfl h8 (by decide)).1
      rw [jm_wd9 h8] at hw
      exact lv_ldc2 hx hb hown (hts _ (hw _ List.mem_cons_self)) hdg (kk0 rfl rfl M locs hW hlo)
    · cases h
  · next i =>
    split at h
    · next r q =>
      split at h
      · next hh =>
        obtain ⟨hw, ps, hp⟩ := jm_link hm (ins := .getfield i) rfl hh.1 (by decide)
        rw [jm_wd0 hh.1] at hw
        obtain ⟨ha, hk⟩ := jm_xk0 hp hh.1
        obtain ⟨rfl, rfl⟩ := jm_gf_s h
        exact jm_get_s C hW hh.2 ha hk (hw _ List.mem_cons_self) hdg (kk0 rfl rfl M locs hW hlo)
      · cases h
    · cases h
  · next i =>
    split at h
    · next h0 =>
      obtain ⟨hw, ps, hp⟩ := jm_link hm (ins := .putfield i) rfl h0 (by decide)
      rw [jm_wd0 h0] at hw
      obtain ⟨ha, hk⟩ := jm_xk0 hp h0
      have hpf := fun k3 => jm_pf_s (l := l) (e := e) (R := R) (below := below) (locs := locs) (cells := cells) (slots := slots) (Q := Q) (A := A) C hW ha hk (hw _ List.mem_cons_self) hdg (jm_xi_fin hxi ha hk ⟨rfl, rfl⟩) hlo h k3
      have hns : jm_n H' = jm_n H ∧ jm_s H' = jm_s H := by
        unfold jm_pf at h
        split at h
        all_goals first | (split at h <;> cases h <;> exact ⟨rfl, rfl⟩) | cases h
      exact (hpf (kk0 hns.1 hns.2)).2
    · cases h
  · next i =>
    split at h
    · next h6 =>
      cases h
      obtain ⟨hw, ps, hp⟩ := jm_link hm (ins := .new i) rfl h6 (by decide)
      rw [jm_wd6 h6] at hw
      obtain ⟨ha, hN⟩ := jm_xk6 hp h6
      rw [hN] at hw hc hs kk
      have e1 : jm_n (jm_mk H ((jm_rv mi (.new i)).2.1 + 1) 0 (jm_N (jm_rv mi (.new i)).2.1)) - jm_n H = 1 := by show jm_n H + 1 - jm_n H = 1; omega
      have e2 : jm_s (jm_mk H ((jm_rv mi (.new i)).2.1 + 1) 0 (jm_N (jm_rv mi (.new i)).2.1)) - jm_s H = jm_N (jm_rv mi (.new i)).2.1 := by show jm_s H + _ - jm_s H = _; omega
      rw [e1] at hc kk
      rw [e2] at hs kk
      exact jm_new_s C hW ha (hw _ List.mem_cons_self) (hw _ (List.mem_cons_of_mem _ List.mem_cons_self)) (hw _ (List.mem_cons_of_mem _ (List.mem_cons_of_mem _ List.mem_cons_self))) hc hs hdg fun M' hW' => kk M' locs hW' hlo
    · cases h
  · next i =>
    split at h
    · next n q =>
      split at h
      · next h7 =>
        cases h
        obtain ⟨hw, ps, hp⟩ := jm_link hm (ins := .anewarray i) rfl h7.1 (by decide)
        rw [jm_wd7 h7.1] at hw
        have e1 : jm_n (jm_mk H (jm_rv mi (.anewarray i)).2.1 n.toNatClampNeg n.toNatClampNeg) - jm_n H = 1 := by show jm_n H + 1 - jm_n H = 1; omega
        have e2 : jm_s (jm_mk H (jm_rv mi (.anewarray i)).2.1 n.toNatClampNeg n.toNatClampNeg) - jm_s H = n.toNatClampNeg := by show jm_s H + _ - jm_s H = _; omega
        rw [e1] at hc kk
        rw [e2] at hs kk
        rcases jm_xk7 hp h7.1 with ⟨g1, g2⟩ | ⟨g1, g2⟩
        · rw [g1] at kk
          exact jm_newq_s (t := 4) C hW (Or.inl ⟨rfl, g2⟩) (hw _ List.mem_cons_self) (hw _ (List.mem_cons_of_mem _ List.mem_cons_self)) h7.2.1 h7.2.2 hc hs hdg fun M' hW' => kk M' locs hW' hlo
        · rw [g1] at kk
          exact jm_newq_s (t := 5) C hW (Or.inr ⟨rfl, g2⟩) (hw _ List.mem_cons_self) (hw _ (List.mem_cons_of_mem _ List.mem_cons_self)) h7.2.1 h7.2.2 hc hs hdg fun M' hW' => kk M' locs hW' hlo
      · cases h
    · cases h
  · next t =>
    split at h
    · next n q =>
      split at h
      · next hn =>
        have e1 : ∀ t', jm_n (jm_mk H t' n.toNatClampNeg n.toNatClampNeg) - jm_n H = 1 := fun t' => by show jm_n H + 1 - jm_n H = 1; omega
        have e2 : ∀ t', jm_s (jm_mk H t' n.toNatClampNeg n.toNatClampNeg) - jm_s H = n.toNatClampNeg := fun t' => by show jm_s H + _ - jm_s H = _; omega
        split at h
        · cases h
          rw [e1] at hc kk
          rw [e2] at hs kk
          exact jm_newa_s (t := 0) C hW (by decide) rfl jm_ac0 hn.1 hn.2 hc hs hdg fun M' hW' => kk M' locs hW' hlo
        · cases h
          rw [e1] at hc kk
          rw [e2] at hs kk
          exact jm_newa_s (t := 1) C hW (by decide) rfl jm_ac1 hn.1 hn.2 hc hs hdg fun M' hW' => kk M' locs hW' hlo
        · cases h
          rw [e1] at hc kk
          rw [e2] at hs kk
          exact jm_newa_s (t := 2) C hW (by decide) rfl jm_ac2 hn.1 hn.2 hc hs hdg fun M' hW' => kk M' locs hW' hlo
        · cases h
          rw [e1] at hc kk
          rw [e2] at hs kk
          exact jm_newa_s (t := 3) C hW (by decide) rfl jm_ac3 hn.1 hn.2 hc hs hdg fun M' hW' => kk M' locs hW' hlo
        · cases h
      · cases h
    · cases h
  · split at h
    · next r q =>
      split at h
      · next hr =>
        cases h
        subst hr
        obtain ⟨scr, g1, g2, g3, g4, g5⟩ := hK.2.1
        exact W.alen (n := Int32.ofNat L) hx hb (a := b) (by rw [hX]; exact g1) g2 (by rw [g4] <;> rfl) rfl rfl hdg (kk0 rfl rfl M locs hW hlo)
      · split at h
        · next hr =>
          cases h
          obtain ⟨w1, w2, w3⟩ := hW.2.2.2 r (by omega)
          obtain ⟨t, ht⟩ : ∃ t, jm_tg H r = 100 + t := ⟨jm_tg H r - 100, by omega⟩
          have ht6 : t < 6 := by omega
          obtain ⟨g1, g2⟩ := jm_arr hW ht ht6 hK
          have hat := (hW.P (r := r) (by omega)).2.2
          rw [jm_ob_a ht] at hat
          exact va_alen (tys := jm_tys dA) hx hb hK.1 (jm_one hat) 0 t rfl (jm_tys_at ht6) rfl hdg (kk0 rfl rfl M locs hW hlo)
        · cases h
    · cases h
  · split at h
    · next i r q =>
      split at h
      · next hr =>
        subst hr
        dsimp only at h
        split at h
        · next hin =>
          cases h
          obtain ⟨scr, g1, g2, g3, g4, g5⟩ := hK.2.1
          have hlt : i.toNatClampNeg < L := Nat.not_le.mp fun q => hin (Or.inr q)
          exact W.iald (v := .int (xs i.toNatClampNeg)) hx hb (a := b) (by rw [hX]; exact g1) g2 g3 (by rw [g4]; exact hin) (g5 _ hlt) rfl rfl hdg (kk0 rfl rfl M locs hW hlo)
        · cases h
      · split at h
        · next hr =>
          cases h
          have hat := (hW.P (r := r) (by omega)).2.2
          rw [jm_ob_a (t := 0) hr.1, jm_ar_i (by omega)] at hat
          exact va_iald (tys := jm_tys dA) hx hb hK.1 (jm_one hat) 0 0 rfl (jm_tys_at (by omega)) (jm_vin hr.2) hdg (kk0 rfl rfl M locs hW hlo)
        · cases h
    · cases h
  · split at h
    · next i r q =>
      split at h
      · next hr =>
        cases h
        have hat := (hW.P (r := r) (by omega)).2.2
        rw [jm_ob_a (t := 1) hr.1, jm_ar_l] at hat
        exact va_lald (tys := jm_tys dA) hx hb hK.1 (jm_one hat) 0 1 rfl (jm_tys_at (by omega)) (jm_vin hr.2) hdg (kk0 rfl rfl M locs hW hlo)
      · cases h
    · cases h
  · split at h
    · next i r q =>
      split at h
      · next hr =>
        cases h
        have hat := (hW.P (r := r) (by omega)).2.2
        rcases hr.1 with h2 | h2
        · rw [jm_ob_a (t := 2) h2, jm_ar_i (by omega)] at hat
          exact va_bald (tys := jm_tys dA) hx hb hK.1 (jm_one hat) 0 2 rfl (jm_tys_at (by omega)) (jm_vin hr.2) hdg (kk0 rfl rfl M locs hW hlo)
        · rw [jm_ob_a (t := 3) h2, jm_ar_i (by omega)] at hat
          exact va_zald (tys := jm_tys dA) hx hb hK.1 (jm_one hat) 0 3 rfl (jm_tys_at (by omega)) (jm_vin hr.2) hdg (kk0 rfl rfl M locs hW hlo)
      · cases h
    · cases h
  · split at h
    · next i r q =>
      split at h
      · next hr =>
        cases h
        have hat := (hW.P (r := r) (by omega)).2.2
        have k1 := kk0 rfl rfl M locs hW hlo
        have e1 : jm_cv base b (.ref (jm_R H r i.toNatClampNeg)) = va_rf (jm_rf base b (jm_R H r i.toNatClampNeg)) := by
          unfold jm_rf
          rw [if_neg hr.2.2]
          rfl
        rw [List.map_cons, e1] at k1
        rcases hr.1 with h2 | h2
        · rw [jm_ob_a (t := 4) h2, jm_ar_q (by omega)] at hat
          exact va_aldq (tys := jm_tys dA) hx hb hK.1 (jm_one hat) 0 4 rfl (jm_tys_at (by omega)) (jm_vin hr.2.1) hdg k1
        · rw [jm_ob_a (t := 5) h2, jm_ar_q (by omega)] at hat
          exact va_aldq (tys := jm_tys dA) hx hb hK.1 (jm_one hat) 0 5 rfl (jm_tys_at (by omega)) (jm_vin hr.2.1) hdg k1
      · cases h
    · cases h
  · split at h
    · next x i r q =>
      split at h
      · next hr =>
        cases h
        obtain ⟨g1, g2⟩ := jm_arr (t := 0) hW hr.1 (by omega) hK
        have hbase := (hW.lt (r := r) (by omega)).2
        rw [jm_ar_i (by omega)] at g1
        refine W.iast hx hb g1 (g2 _ (fun j => .int (jm_I H r j))) (fun q => by cases q) (by show ¬ (i < 0 ∨ (arrV _ _ _).slots.size ≤ _); rw [arrV_size]; exact hr.2) rfl rfl hdg fun M' e1 z oq => ?_
        refine kk0 rfl rfl M' _ (jm_ast (t := 0) (j := i.toNatClampNeg) hW hr.1 rfl rfl rfl (fun r' hr' => jm_pI_ob H r _ x hr') (v := .int x) ?_ ?_ z oq) (jm_loc1 hlo hbase)
        · rw [jm_ar_i (by omega), jm_ar_i (by omega)]; exact jm_sI
        · rw [jm_ar_i (by omega)]; exact e1
      · cases h
    · cases h
  · split at h
    · next x i r q =>
      split at h
      · next hr =>
        cases h
        obtain ⟨g1, g2⟩ := jm_arr (t := 1) hW hr.1 (by omega) hK
        have hbase := (hW.lt (r := r) (by omega)).2
        rw [jm_ar_l] at g1
        refine W.last hx hb g1 (g2 _ (fun j => .long (jm_L H r j))) (fun q => by cases q) (by show ¬ (i < 0 ∨ (arrV _ _ _).slots.size ≤ _); rw [arrV_size]; exact hr.2) rfl rfl hdg fun M' e1 z oq => ?_
        refine kk0 rfl rfl M' _ (jm_ast (t := 1) (j := i.toNatClampNeg) hW hr.1 rfl rfl rfl (fun r' hr' => jm_pL_ob H r _ x hr') (v := .long x) ?_ ?_ z oq) (jm_loc1 hlo hbase)
        · rw [jm_ar_l, jm_ar_l]; exact jm_sL
        · rw [jm_ar_l]; exact e1
      · cases h
    · cases h
  · split at h
    · next x i r q =>
      split at h
      · next hin =>
        split at h
        · next ht =>
          cases h
          obtain ⟨g1, g2⟩ := jm_arr (t := 2) hW ht (by omega) hK
          have hbase := (hW.lt (r := r) (by omega)).2
          rw [jm_ar_i (by omega)] at g1
          refine W.bast hx hb g1 (g2 _ (fun j => .int (jm_I H r j))) (fun q => by cases q) (by show ¬ (i < 0 ∨ (arrV _ _ _).slots.size ≤ _); rw [arrV_size]; exact hin) rfl rfl hdg fun M' e1 z oq => ?_
          refine kk0 rfl rfl M' _ (jm_ast (t := 2) (j := i.toNatClampNeg) hW ht rfl rfl rfl (fun r' hr' => jm_pI_ob H r _ _ hr') (v := .int x.toInt8.toInt32) ?_ ?_ z oq) (jm_loc1 hlo hbase)
          · rw [jm_ar_i (by omega), jm_ar_i (by omega)]; exact jm_sI
          · rw [jm_ar_i (by omega)]; exact e1
        · split at h
          · next ht =>
            cases h
            obtain ⟨g1, g2⟩ := jm_arr (t := 3) hW ht.1 (by omega) hK
            have hbase := (hW.lt (r := r) (by omega)).2
            rw [jm_ar_i (by omega)] at g1
            refine W.zast hx hb g1 (g2 _ (fun j => .int (jm_I H r j))) (fun q => by cases q) (by show ¬ (i < 0 ∨ (arrV _ _ _).slots.size ≤ _); rw [arrV_size]; exact hin) rfl rfl hdg fun M' e1 z oq => ?_
            refine kk0 rfl rfl M' _ (jm_ast (t := 3) (j := i.toNatClampNeg) hW ht.1 rfl rfl rfl (fun r' hr' => jm_pI_ob H r _ x hr') (v := .int x) ?_ ?_ z oq) (jm_loc1 hlo hbase)
            · rw [jm_ar_i (by omega), jm_ar_i (by omega)]; exact jm_sI
            · rw [jm_ar_i (by omega)]
              rw [← (jm_b01 ht.2).1]
              exact e1
          · cases h
      · cases h
    · cases h
  · split at h
    · next x i r q =>
      split at h
      · next hr =>
        cases h
        have hin : ¬ (i < 0 ∨ jm_ln H r ≤ i.toNatClampNeg) := hr.2
        have hrt : jm_tg H r ≠ 0 := by rcases hr.1 with ⟨h1, -⟩ | ⟨h1, -⟩ <;> omega
        have hxt : jm_tg H x ≠ 0 := by rcases hr.1 with ⟨-, h1⟩ | ⟨-, h1⟩ <;> omega
        have hbase := (hW.lt hrt).2
        have hxr : x ≠ 0 := by
          have := (hW.2.2.2 x hxt).1
          exact Nat.ne_of_gt (Nat.lt_of_lt_of_le (by decide) this)
        have key : ∀ (t ci : Nat), ((t = 4 ∧ ci = 6) ∨ (t = 5 ∧ ci = 5)) → jm_tg H r = 100 + t → jm_tg H x = ci + 1 → W p l e R s m args below meth c M locs cells slots Q (F0 m pc A (List.map (jm_cv base b) (.ref x :: .int i :: .ref r :: st'))) := by
          intro t ci htc h1 h2
          have hci : ci < 13 := by omega
          have ht6 : t < 6 := by omega
          obtain ⟨g1, g2⟩ := jm_arr hW h1 ht6 hK
          rw [jm_ar_q (by omega)] at g1
          have hat := (hW.P (r := x) (by omega)).2.2
          rw [jm_ob_o h2 hci] at hat
          obtain ⟨rr, e1, cellV, q1, q2, q3, -⟩ := hat
          have hrr : rr = (jm_C ci, jm_T ci, jm_N ci) := Option.some.inj (e1.symm.trans (jm_cl_at hci))
          subst hrr
          have hcls := (hK.1.1 ci _ (jm_cl_at hci)).2
          obtain ⟨kA, comp, k1, k2, k3, -⟩ : va_RA s (dA t) (.object (jm_C ci)) := by
            have h3 := (hK.1.2 t _ (jm_tys_at ht6)).2
            rcases htc with ⟨rfl, rfl⟩ | ⟨rfl, rfl⟩ <;> exact h3
          have hcomp : comp = D.1 ci := Option.some.inj (k3.symm.trans hcls.1)
          subst hcomp
          obtain ⟨kC, hkC, -⟩ := hcls.2
          refine W.aast hx hb g1 (fun q h => by cases h) (fun h => by cases h) k1 k2 rfl hkC ⟨fun q => hin (Or.inl q), by show _ < (arrV _ _ _).slots.size; rw [arrV_size]; exact Nat.not_le.mp fun q => hin (Or.inr q)⟩ q1 (fun q h => by rw [q3] at h; cases h) (by rw [q2]; exact hkC) (by rw [q2]; exact va_assign hcls) rfl rfl hdg fun M' e1 z oq => ?_
          refine kk0 rfl rfl M' _ (jm_ast (t := t) (j := i.toNatClampNeg) hW h1 rfl rfl rfl (fun r' hr' => jm_pR_ob H r _ x hr') (v := .ref (jm_ad base b x)) ?_ ?_ z oq) (jm_loc1 hlo hbase)
          · rw [jm_ar_q (by omega), jm_ar_q (by omega)]; exact jm_sR hxr
          · rw [jm_ar_q (by omega)]; exact e1
        rcases hr.1 with ⟨h1, h2⟩ | ⟨h1, h2⟩
        · exact key 4 6 (Or.inl ⟨rfl, rfl⟩) h1 h2
        · exact key 5 5 (Or.inr ⟨rfl, rfl⟩) h1 h2
      · cases h
    · cases h
  · cases h
set_option maxHeartbeats 4000000 in
theorem jm_hq_s {ins : Instr} {st st' : List Value} {H' : jm_H} (C : jm_Cx D dA base b L xs H00 mi p s m args meth c) (hdg : decode (jm_b mi) pc = .ok (ins, jm_len ins)) (hxi : jm_xi mi (pc, ins) = true) (hW : jm_W0 D dA base b H00 M H) (hlo : ∀ q ∈ locs, base ≤ q.base)
    (h : jm_hq (some (L, xs)) ins (jm_rv mi ins) st H = some (st', H')) (hc : cells + (jm_n H' - jm_n H) ≤ R.cells) (hs : slots + (jm_s H' - jm_s H) ≤ R.slots)
    (kk : ∀ (M' : Heap) (locs' : List Loc), jm_W0 D dA base b H00 M' H' → (∀ q ∈ locs', base ≤ q.base) → W p l e R s m args below meth c M' locs' (cells + (jm_n H' - jm_n H)) (slots + (jm_s H' - jm_s H)) Q (F0 m (pc + jm_len ins) A (st'.map (jm_cv base b)))) :
    W p l e R s m args below meth c M locs cells slots Q (F0 m pc A (st.map (jm_cv base b))) := by
  unfold jm_hq at h
  split at h
  · next y hy =>
    cases h
    exact jm_hp_s C hdg hxi hW hlo hy hc hs kk
  · split at h
    · next i n q hno =>
      split at h
      · next h6 =>
        cases h
        have hm : jm_xm mi = true := C.2.2.2.2.2.2.2.2.2.1
        have hops := jm_plc jm_opx
        obtain ⟨hw, ps, hp⟩ := jm_link hm (ins := .anewarray i) rfl h6.1 (by decide)
        rw [jm_wd6 h6.1] at hw
        have e1 : ∀ t, jm_n (jm_mk H t n.toNatClampNeg n.toNatClampNeg) - jm_n H = 1 := fun t => by show jm_n H + 1 - jm_n H = 1; omega
        have e2 : ∀ t, jm_s (jm_mk H t n.toNatClampNeg n.toNatClampNeg) - jm_s H = n.toNatClampNeg := fun t => by show jm_s H + _ - jm_s H = _; omega
        rw [e1] at hc kk
        rw [e2] at hs kk
        rcases h6.2.2.2 with g | g
        · rw [if_pos g] at kk
          rw [g] at hw
          exact jm_newq_s (t := 4) (ci := 6) C hW (Or.inl ⟨rfl, rfl⟩) (hw _ List.mem_cons_self) (jm_tb_in (hops _ (List.mem_of_getElem? (i := 6) rfl)) rfl) h6.2.1 h6.2.2.1 hc hs hdg fun M' hW' => kk M' locs hW' hlo
        · rw [if_neg (by omega)] at kk
          rw [g] at hw
          exact jm_newq_s (t := 5) (ci := 5) C hW (Or.inr ⟨rfl, rfl⟩) (hw _ List.mem_cons_self) (jm_tb_in (hops _ (List.mem_of_getElem? (i := 7) rfl)) rfl) h6.2.1 h6.2.2.1 hc hs hdg fun M' hW' => kk M' locs hW' hlo
      · cases h
    · cases h
end JHS
