/-- a method's body: the machine, its code and tables, what stays true -/
def jm_Cx (D : va_G) (dA : Nat → ClassId) (base b L : Nat) (xs : Nat → Int32) (H00 : Heap) (mi : Nat) (p : Program) (s : State) (m : MethodId) (args : Array Value) (meth : Method) (c : Code) : Prop :=
  p.tables.exec = Jvm.exec ∧ c.code = jm_b mi ∧ meth.sig.returnType = jm_ret mi ∧ c.maxLocals = jm_mx mi ∧ s.vm.findClass (jm_y mi).cls = some m.cls ∧ (∀ w ∈ jm_tb, w.before args s = true) ∧ meth.locks = false ∧ ((jm_y mi).name = "<init>" → meth.name = "<init>") ∧
  jm_K D dA b L xs H00 s ∧ jm_xm mi = true ∧ b < base ∧ H00.size = base
theorem jm_xm_own {mi : Nat} (h : jm_xm mi = true) : jm_own.getD (jm_ci mi) "" = (jm_y mi).cls := by
  unfold jm_xm at h
  simp only [Bool.and_eq_true, decide_eq_true_eq] at h
  exact h.1.1.1.1.symm
theorem jm_fs_at {base b : Nat} {H : jm_H} {r ci k : Nat} (hk : k < jm_N ci) : (jm_fs base b H r ci)[k]? = some (jm_cv base b (jm_fv H r ci k)) := by
  simp [jm_fs, hk]
theorem jm_fs_V {base b : Nat} {H : jm_H} {r ci k : Nat} (hk : k < jm_N ci) : vp_V (jm_fs base b H r ci) k = jm_cv base b (jm_fv H r ci k) := by
  unfold vp_V
  rw [List.getD_eq_getElem?_getD, jm_fs_at hk]
  rfl
theorem jm_ob_o {dA : Nat → ClassId} {base b : Nat} {H : jm_H} {r ci : Nat} (ht : jm_tg H r = ci + 1) (hc : ci < 13) : jm_ob dA base b H r = .inr (ci, jm_fs base b H r ci) := by
  unfold jm_ob
  rw [ht, if_pos (by omega)]
  rfl
theorem jm_ob_a {dA : Nat → ClassId} {base b : Nat} {H : jm_H} {r t : Nat} (ht : jm_tg H r = 100 + t) : jm_ob dA base b H r = .inl (dA t, jm_ln H r, jm_ar base b H r (100 + t)) := by
  unfold jm_ob
  rw [ht, if_neg (by omega), Nat.add_sub_cancel_left]
/-- a change of one place of one map leaves the other objects -/
theorem jm_ob_eq {dA : Nat → ClassId} {base b : Nat} {H H' : jm_H} {r' : Nat} (h1 : jm_tg H' = jm_tg H) (h2 : jm_ln H' = jm_ln H) (h3 : jm_I H' r' = jm_I H r') (h4 : jm_L H' r' = jm_L H r') (h5 : jm_R H' r' = jm_R H r') : jm_ob dA base b H' r' = jm_ob dA base b H r' := by
  unfold jm_ob jm_fs jm_fv jm_ar
  rw [h1, h2, h3, h4, h5]
theorem jm_u2_ne {α : Type} (f : Nat → Nat → α) {a k : Nat} (v : α) {r' : Nat} (h : r' ≠ a) : jm_u2 f a k v r' = f r' := by
  funext j
  unfold jm_u2
  rw [show Nat.beq r' a = false from jm_bne h]
  rfl
theorem jm_u2_at {α : Type} (f : Nat → Nat → α) (a k : Nat) (v : α) (j : Nat) : jm_u2 f a k v a j = if j = k then v else f a j := by
  unfold jm_u2
  rw [Nat.beq_refl, Bool.true_and]
  by_cases h : j = k
  · rw [if_pos h, h, Nat.beq_refl]; rfl
  · rw [if_neg h, show Nat.beq j k = false from jm_bne h]; rfl
theorem jm_pI_ob {dA : Nat → ClassId} {base b : Nat} (H : jm_H) (r k : Nat) (v : Int32) {r' : Nat} (h : r' ≠ r) : jm_ob dA base b (jm_pI H r k v) r' = jm_ob dA base b H r' := jm_ob_eq rfl rfl (jm_u2_ne _ v h) rfl rfl
theorem jm_pL_ob {dA : Nat → ClassId} {base b : Nat} (H : jm_H) (r k : Nat) (v : Int64) {r' : Nat} (h : r' ≠ r) : jm_ob dA base b (jm_pL H r k v) r' = jm_ob dA base b H r' := jm_ob_eq rfl rfl rfl (jm_u2_ne _ v h) rfl
theorem jm_pR_ob {dA : Nat → ClassId} {base b : Nat} (H : jm_H) (r k : Nat) (v : Nat) {r' : Nat} (h : r' ≠ r) : jm_ob dA base b (jm_pR H r k v) r' = jm_ob dA base b H r' := jm_ob_eq rfl rfl rfl rfl (jm_u2_ne _ v h)
section JHP
variable {p : Program} {l : Launch} {e : Env} {R : Room} {s : State} {m : MethodId} {args : Array Value} {below : List Frame} {meth : Method} {c : Code} {M : Heap} {locs : List Loc} {cells slots : Nat} {Q : State → Prop}
variable {pc : Nat} {A : Array Slot} {base b L : Nat} {xs : Nat → Int32} {H00 : Heap} {D : va_G} {dA : Nat → ClassId} {mi : Nat} {H : jm_H} {rest : List Value}
theorem jm_one {D : va_G} {M : Heap} {q : Nat × va_E} (h : va_at D jm_cl0 q M) : va_P D jm_cl0 [q] M := by
  intro k x hk
  have hz : k < 1 := (List.getElem?_eq_some_iff.mp hk).1
  rw [show k = 0 by omega] at hk
  cases hk
  exact h
set_option maxHeartbeats 1000000 in
theorem jm_get_s {r ci k idx : Nat} (C : jm_Cx D dA base b L xs H00 mi p s m args meth c) (hW : jm_W0 D dA base b H00 M H) (ht : jm_tg H r = ci + 1) (hci : ci < 13) (hk : k < jm_N ci)
    (hl : Cond.fieldLink (jm_y mi).cls idx (jm_T ci k).1 (jm_T ci k).2.1 (jm_T ci k).2.2.1 ∈ jm_tb) (hdg : decode (jm_b mi) pc = .ok (.getfield idx, 3))
    (kk : W p l e R s m args below meth c M locs cells slots Q (F0 m (pc + 3) A (jm_cv base b (jm_fv H r ci k) :: rest))) : W p l e R s m args below meth c M locs cells slots Q (F0 m pc A (.ref (jm_ad base b r) :: rest)) := by
  obtain ⟨hx, hb, -, -, hown, hts, -, -, hK, -⟩ := C
  have hat := (hW.P (r := r) (by omega)).2.2
  rw [jm_ob_o ht hci] at hat
  exact va_get (C := jm_C ci) (T := jm_T ci) (N := jm_N ci) (ci := ci) hx hb hts (jm_lay_in hci) hown hK.1 (jm_one hat) 0 rfl (jm_cl_at hci) k hk (hts _ hl) (fun _ h => h) (jm_fs_at hk) hdg kk
set_option maxHeartbeats 2000000 in
theorem jm_put_s {r ci k idx : Nat} {v : Value} {H' : jm_H} (C : jm_Cx D dA base b L xs H00 mi p s m args meth c) (hW : jm_W0 D dA base b H00 M H) (ht : jm_tg H r = ci + 1) (hci : ci < 13) (hk : k < jm_N ci)
    (hl : Cond.fieldLink (jm_y mi).cls idx (jm_T ci k).1 (jm_T ci k).2.1 (jm_T ci k).2.2.1 ∈ jm_tb) (hdg : decode (jm_b mi) pc = .ok (.putfield idx, 3))
    (hfin : (jm_T ci k).2.2.2 = true → (jm_y mi).name = "<init>" ∧ (jm_y mi).cls = (jm_T ci k).1) (hn : narrow (jm_ty ci k) v = v) (hfit : fits (jm_ty ci k) v = true)
    (h1 : jm_n H' = jm_n H) (h2 : jm_tg H' = jm_tg H) (hob : ∀ r', r' ≠ r → jm_ob dA base b H' r' = jm_ob dA base b H r') (hv : ∀ j, j < jm_N ci → jm_cv base b (jm_fv H' r ci j) = if j = k then v else jm_cv base b (jm_fv H r ci j))
    (hlo : ∀ q ∈ locs, base ≤ q.base) (kk : ∀ (M' : Heap) (locs' : List Loc), jm_W0 D dA base b H00 M' H' → (∀ q ∈ locs', base ≤ q.base) → W p l e R s m args below meth c M' locs' cells slots Q (F0 m (pc + 3) A rest)) :
    W p l e R s m args below meth c M locs cells slots Q (F0 m pc A (v :: .ref (jm_ad base b r) :: rest)) := by
  obtain ⟨hx, hb, -, -, hown, hts, -, hin, hK, -⟩ := C
  have htn : jm_tg H r ≠ 0 := by omega
  obtain ⟨hr1, hr2, hat⟩ := hW.P htn
  have hbase := (hW.lt htn).2
  rw [jm_ob_o ht hci] at hat
  obtain ⟨rr, e1, cell, q1, q2, q3, q4⟩ := hat
  have hrr : rr = (jm_C ci, jm_T ci, jm_N ci) := Option.some.inj (e1.symm.trans (jm_cl_at hci))
  subst hrr
  obtain ⟨hS, hfc, kC, hkC, hkind⟩ := hK.1.1 ci _ (jm_cl_at hci)
  obtain ⟨cf, kf, fi, f, hi, hsl⟩ := hS k hk
  have hap := va_apart (own := (jm_y mi).cls) hts (jm_lay_in hci) (jm_ty ci) (jm_cl_ok hci).2 (jm_cl_ok hci).1 hK.1 (jm_cl_at hci)
  have hst := (u_facts hfc hkC (u_lays hts (jm_lay_in hci) hk) hi).1
  have hd := (jm_cl_ok hci).2 k hk
  have hend : ∀ M' : Heap, M'[jm_ad base b r]? = some (cell.setSlot f.slot v) → M'.size = M.size → (∀ q, q ≠ jm_ad base b r → M'[q]? = M[q]?) → W p l e R s m args below meth c M' (locs ++ [⟨jm_ad base b r, f.slot⟩]) cells slots Q (F0 m (pc + 3) A rest) := by
    intro M' g1 g2 g3
    refine kk M' _ (hW.set htn h1 h2 g2 g3 hob ?_) ?_
    · rw [jm_ob_o (by rw [h2]; exact ht) hci]
      rw [hsl] at g1
      refine ⟨_, jm_cl_at hci, t_OB.to (V := updV (vp_V (jm_fs base b H r ci)) k v) ⟨_, g1, q2, q3, t_set q4 hap hk v⟩ (fun j hj => ?_)⟩
      show updV (vp_V (jm_fs base b H r ci)) k v j = vp_V (jm_fs base b H' r ci) j
      rw [jm_fs_V hj, hv j hj]
      unfold updV
      by_cases e : j = k
      · rw [if_pos e, if_pos e]
      · rw [if_neg e, if_neg e, jm_fs_V hj]
    · intro q hq
      rcases List.mem_append.mp hq with h | h
      · exact hlo q h
      · rw [List.mem_singleton.mp h]
        exact hbase
  have hlay := hts _ (jm_lay_in hci _ (u_in_lay hk))
  unfold u_lay at hlay
  by_cases hF : (jm_T ci k).2.2.2 = true
  · rw [if_pos hF] at hlay
    obtain ⟨hn1, hn2⟩ := hfin hF
    have hcf : m.cls = cf := by
      obtain ⟨_, _, c', _, _, _, -, -, hf', -, -, -, hown2, -⟩ := Cond.laysFinal_spec hlay
      have e1 : c' = cf := by have := hi.symm.trans hf'; simp at this; exact this.1.symm
      rw [← hn2] at hown2
      rw [← e1]; exact Option.some.inj (hown.symm.trans hown2)
    have h6 := u_fits hfc hkC hkind (Or.inr hlay) hi hd hn hfit
    exact W.putFinK hx hb hown (hts _ hl) hi hst hcf (hin hn1) (by rw [q2]; exact h6) q1 q3 (by rw [hsl]; exact k2_hasslot (q4 k hk)) rfl rfl hdg fun M' g1 g2 g3 => hend M' g1 g2 g3
  · rw [if_neg hF] at hlay
    have h6 := u_store hfc hkC hkind hlay hi hd hn hfit
    exact W.putK hx hb (f := f) ⟨hown, hts _ hl, ⟨_, _, _, hi⟩, hst⟩ (by rw [q2]; exact h6) q1 q3 (by rw [hsl]; exact k2_hasslot (q4 k hk)) rfl rfl hdg fun M' g1 g2 g3 => hend M' g1 g2 g3
theorem jm_ar_i {base b : Nat} {H : jm_H} {r t : Nat} (h : t = 100 ∨ t = 102 ∨ t = 103) : jm_ar base b H r t = .inl (jm_I H r) := by
  unfold jm_ar
  rw [if_neg (by omega), if_neg (by omega)]
theorem jm_ar_l {base b : Nat} {H : jm_H} {r : Nat} : jm_ar base b H r 101 = .inr (.inl (jm_L H r)) := rfl
theorem jm_ar_q {base b : Nat} {H : jm_H} {r t : Nat} (h : t = 104 ∨ t = 105) : jm_ar base b H r t = .inr (.inr (.inr (.inr (fun j => jm_rf base b (jm_R H r j))))) := by
  unfold jm_ar
  rw [if_neg (by omega), if_pos h]
/-- an array's cell, and its kind -/
theorem jm_arr {t r : Nat} (hW : jm_W0 D dA base b H00 M H) (ht : jm_tg H r = 100 + t) (h6 : t < 6) (hK : jm_K D dA b L xs H00 s) : M[jm_ad base b r]? = some (vp_cell (dA t) (jm_ln H r, jm_ar base b H r (100 + t))) ∧ ArrOfT s (dA t) (jm_aty t) := by
  have hat := (hW.P (r := r) (by omega)).2.2
  rw [jm_ob_a ht] at hat
  exact ⟨hat, (hK.1.2 t _ (jm_tys_at h6)).1⟩
/-- an array's place is written -/
theorem jm_ast {t r j : Nat} {H' : jm_H} {M' : Heap} (hW : jm_W0 D dA base b H00 M H) (ht : jm_tg H r = 100 + t) (h1 : jm_n H' = jm_n H) (h2 : jm_tg H' = jm_tg H) (h3 : jm_ln H' = jm_ln H) (hob : ∀ r', r' ≠ r → jm_ob dA base b H' r' = jm_ob dA base b H r')
    {v : Value} (hc : (vp_cell (dA t) (jm_ln H r, jm_ar base b H r (100 + t))).setSlot j v = vp_cell (dA t) (jm_ln H r, jm_ar base b H' r (100 + t)))
    (hat : M'[jm_ad base b r]? = some ((vp_cell (dA t) (jm_ln H r, jm_ar base b H r (100 + t))).setSlot j v)) (hz : M'.size = M.size) (ho : ∀ q : Nat, q ≠ jm_ad base b r → M'[q]? = M[q]?) : jm_W0 D dA base b H00 M' H' := by
  refine hW.set (r := r) (by omega) h1 h2 hz ho hob ?_
  rw [jm_ob_a (by rw [h2]; exact ht), h3]
  show M'[_]? = some (vp_cell _ _)
  rw [hat, hc]
theorem jm_loc1 {a j base : Nat} (hlo : ∀ q ∈ locs, base ≤ q.base) (h : base ≤ a) : ∀ q ∈ locs ++ [⟨a, j⟩], base ≤ q.base := by
  intro q hq
  rcases List.mem_append.mp hq with h1 | h1
  · exact hlo q h1
  · rw [List.mem_singleton.mp h1]
    exact h
theorem jm_upd_I (H : jm_H) (r j : Nat) (v : Int32) : jm_I (jm_pI H r j v) r = fun q => if q = j then v else jm_I H r q := by
  funext q
  exact jm_u2_at _ _ _ _ _
theorem jm_upd_L (H : jm_H) (r j : Nat) (v : Int64) : jm_L (jm_pL H r j v) r = fun q => if q = j then v else jm_L H r q := by
  funext q
  exact jm_u2_at _ _ _ _ _
theorem jm_upd_R (H : jm_H) (r j : Nat) (v : Nat) : jm_R (jm_pR H r j v) r = fun q => if q = j then v else jm_R H r q := by
  funext q
  exact jm_u2_at _ _ _ _ _
theorem jm_sI {cA : ClassId} {n r j : Nat} {v : Int32} : (vp_cell cA (n, .inl (jm_I H r))).setSlot j (.int v) = vp_cell cA (n, .inl (jm_I (jm_pI H r j v) r)) := by
  rw [vp_cell_i, vp_cell_i, arrV_store]
  congr 1
  funext q
  rw [jm_upd_I]
  unfold updV
  dsimp only
  by_cases e : q = j
  · rw [if_pos e, if_pos e]
  · rw [if_neg e, if_neg e]
theorem jm_sL {cA : ClassId} {n r j : Nat} {v : Int64} : (vp_cell cA (n, .inr (.inl (jm_L H r)))).setSlot j (.long v) = vp_cell cA (n, .inr (.inl (jm_L (jm_pL H r j v) r))) := by
  rw [vp_cell_l, vp_cell_l, arrV_store]
  congr 1
  funext q
  rw [jm_upd_L]
  unfold updV
  dsimp only
  by_cases e : q = j
  · rw [if_pos e, if_pos e]
  · rw [if_neg e, if_neg e]
theorem jm_sR {cA : ClassId} {n r j x : Nat} (hx : x ≠ 0) : (vp_cell cA (n, .inr (.inr (.inr (.inr (fun k => jm_rf base b (jm_R H r k))))))).setSlot j (.ref (jm_ad base b x)) = vp_cell cA (n, .inr (.inr (.inr (.inr (fun k => jm_rf base b (jm_R (jm_pR H r j x) r k)))))) := by
  rw [vp_cell_q, vp_cell_q, arrV_store]
  congr 1
  funext q
  rw [jm_upd_R]
  unfold updV
  by_cases e : q = j
  · rw [if_pos e]
    show _ = va_rf (jm_rf base b (if q = j then x else _))
    rw [if_pos e]
    unfold jm_rf
    rw [if_neg hx]
    rfl
  · rw [if_neg e]
    show _ = va_rf (jm_rf base b (if q = j then x else _))
    rw [if_neg e]
end JHP
