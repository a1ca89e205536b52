/-! the heap's relation, and the instructions that read or write it -/
theorem jm_bne {a b : Nat} (h : a ≠ b) : Nat.beq a b = false := by
  cases hb : Nat.beq a b
  · rfl
  · exact absurd (Nat.eq_of_beq_eq_true hb) h
def jm_fv (H : jm_H) (r ci k : Nat) : Value := match jm_ft ci k with
  | 1 => .long (jm_L H r k)
  | 2 => if jm_R H r k = 0 then .null else .ref (jm_R H r k)
  | _ => .int (jm_I H r k)
def jm_fs (base b : Nat) (H : jm_H) (r ci : Nat) : List Value := (List.range (jm_N ci)).map (fun k => jm_cv base b (jm_fv H r ci k))
def jm_rf (base b : Nat) (x : Nat) : Option Nat := if x = 0 then none else some (jm_ad base b x)
def jm_ar (base b : Nat) (H : jm_H) (r t : Nat) : (Nat → Int32) ⊕ (Nat → Int64) ⊕ (Nat → UInt32) ⊕ (Nat → UInt64) ⊕ (Nat → Option Nat) :=
  if t = 101 then .inr (.inl (jm_L H r)) else if t = 104 ∨ t = 105 then .inr (.inr (.inr (.inr (fun j => jm_rf base b (jm_R H r j))))) else .inl (jm_I H r)
def jm_ob (dA : Nat → ClassId) (base b : Nat) (H : jm_H) (r : Nat) : va_E :=
  if jm_tg H r < 100 then .inr (jm_tg H r - 1, jm_fs base b H r (jm_tg H r - 1)) else .inl (dA (jm_tg H r - 100), jm_ln H r, jm_ar base b H r (jm_tg H r))
def jm_wl (dA : Nat → ClassId) (base b : Nat) (H : jm_H) : va_W := (List.range (jm_n H)).map (fun k => (base + k, jm_ob dA base b H (k + 2)))
def jm_wf (H : jm_H) : Prop := ∀ r, jm_tg H r ≠ 0 → 2 ≤ r ∧ r < jm_n H + 2 ∧ (jm_tg H r ≤ 13 ∨ (100 ≤ jm_tg H r ∧ jm_tg H r ≤ 105))
def jm_W0 (D : va_G) (dA : Nat → ClassId) (base b : Nat) (H00 M : Heap) (H : jm_H) : Prop :=
  M.size = base + jm_n H ∧ (∀ k, k < jm_n H → va_at D jm_cl0 (base + k, jm_ob dA base b H (k + 2)) M) ∧ (∀ q, q < base → M[q]? = H00[q]?) ∧ jm_wf H
def jm_aty (t : Nat) : FieldType := match t with
  | 0 => .int
  | 1 => .long
  | 2 => .byte
  | 3 => .boolean
  | 4 => .object "TaperedNumbers$State"
  | _ => .object "TaperedNumbers$Slot"
abbrev jm_tys (dA : Nat → ClassId) : List (ClassId × FieldType) := [(dA 0, jm_aty 0), (dA 1, jm_aty 1), (dA 2, jm_aty 2), (dA 3, jm_aty 3), (dA 4, jm_aty 4), (dA 5, jm_aty 5)]
/-- what stays true of the tables while the program runs -/
def jm_K (D : va_G) (dA : Nat → ClassId) (b L : Nat) (xs : Nat → Int32) (H00 : Heap) (U : State) : Prop :=
  va_K D jm_cl0 (jm_tys dA) U ∧ va_X b L xs U H00 ∧ ∀ w ∈ lw_tbl, jm_gw w = true → va_Nw w U
theorem jm_tys_at {dA : Nat → ClassId} {t : Nat} (h : t < 6) : (jm_tys dA)[t]? = some (dA t, jm_aty t) := by
  match t, h with
  | 0, _ => rfl
  | 1, _ => rfl
  | 2, _ => rfl
  | 3, _ => rfl
  | 4, _ => rfl
  | 5, _ => rfl
theorem jm_wl_at {dA : Nat → ClassId} {base b : Nat} {H : jm_H} {k : Nat} (h : k < jm_n H) : (jm_wl dA base b H)[k]? = some (base + k, jm_ob dA base b H (k + 2)) := by
  simp [jm_wl, h]
theorem jm_W0.P {D : va_G} {dA : Nat → ClassId} {base b : Nat} {H00 M : Heap} {H : jm_H} (h : jm_W0 D dA base b H00 M H) {r : Nat} (ht : jm_tg H r ≠ 0) : r - 2 < jm_n H ∧ jm_ad base b r = base + (r - 2) ∧ va_at D jm_cl0 (jm_ad base b r, jm_ob dA base b H r) M := by
  obtain ⟨h2, h3, -⟩ := h.2.2.2 r ht
  have e : jm_ad base b r = base + (r - 2) := by
    unfold jm_ad
    rw [if_neg (by omega)]
  refine ⟨by omega, e, ?_⟩
  rw [e]
  have := h.2.1 (r - 2) (by omega)
  rw [show r - 2 + 2 = r by omega] at this
  exact this
theorem jm_W0.lt {D : va_G} {dA : Nat → ClassId} {base b : Nat} {H00 M : Heap} {H : jm_H} (h : jm_W0 D dA base b H00 M H) {r : Nat} (ht : jm_tg H r ≠ 0) : jm_ad base b r < M.size ∧ base ≤ jm_ad base b r := by
  obtain ⟨h1, h2, -⟩ := h.P ht
  rw [h2, h.1]
  omega
/-- one object is changed -/
theorem jm_W0.set {D : va_G} {dA : Nat → ClassId} {base b : Nat} {H00 M M' : Heap} {H H' : jm_H} (h : jm_W0 D dA base b H00 M H) {r : Nat} (ht : jm_tg H r ≠ 0) (hn : jm_n H' = jm_n H) (htg : jm_tg H' = jm_tg H)
    (hz : M'.size = M.size) (ho : ∀ q : Nat, q ≠ jm_ad base b r → M'[q]? = M[q]?) (hob : ∀ r', r' ≠ r → jm_ob dA base b H' r' = jm_ob dA base b H r') (hat : va_at D jm_cl0 (jm_ad base b r, jm_ob dA base b H' r) M') : jm_W0 D dA base b H00 M' H' := by
  obtain ⟨h1, h2, h3⟩ := h.P ht
  obtain ⟨g1, g2, g3, g4⟩ := h
  have hr := g4 r ht
  refine ⟨by rw [hz, hn]; exact g1, fun k hk => ?_, fun q hq => by rw [ho q (by rw [h2]; omega)]; exact g3 q hq, fun r' hr' => by rw [htg] at hr' ⊢; rw [hn]; exact g4 r' hr'⟩
  by_cases e : k + 2 = r
  · rw [← e] at hat h2
    rw [h2] at hat
    exact hat
  · rw [hob (k + 2) e]
    exact (g2 k (by rw [← hn]; exact hk)).kept (ho _ (by rw [h2]; omega))
/-- one object more -/
theorem jm_W0.add {D : va_G} {dA : Nat → ClassId} {base b : Nat} {H00 M M' : Heap} {H : jm_H} {t len sl : Nat} (h : jm_W0 D dA base b H00 M H) (htt : t ≤ 13 ∨ (100 ≤ t ∧ t ≤ 105))
    (hz : M'.size = M.size + 1) (ho : ∀ q : Nat, q < M.size → M'[q]? = M[q]?) (hat : va_at D jm_cl0 (M.size, jm_ob dA base b (jm_mk H t len sl) (jm_n H + 2)) M') : jm_W0 D dA base b H00 M' (jm_mk H t len sl) := by
  obtain ⟨g1, g2, g3, g4⟩ := h
  have hn : jm_n (jm_mk H t len sl) = jm_n H + 1 := rfl
  have htg : ∀ r, r ≠ jm_n H + 2 → jm_tg (jm_mk H t len sl) r = jm_tg H r := fun r hr => by
    show cond (Nat.beq r (jm_n H + 2)) _ _ = _
    rw [show Nat.beq r (jm_n H + 2) = false from jm_bne hr]
    rfl
  refine ⟨by rw [hz, hn]; omega, fun k hk => ?_, fun q hq => by rw [ho q (by omega)]; exact g3 q hq, fun r hr => ?_⟩
  · by_cases e : k = jm_n H
    · subst e
      rw [g1] at hat
      exact hat
    · have hk' : k < jm_n H := by rw [hn] at hk; omega
      have hb : Nat.beq (k + 2) (jm_n H + 2) = false := jm_bne (by omega)
      have e1 : jm_ob dA base b (jm_mk H t len sl) (k + 2) = jm_ob dA base b H (k + 2) := by
        have a1 : jm_tg (jm_mk H t len sl) (k + 2) = jm_tg H (k + 2) := htg _ (by omega)
        have a2 : jm_ln (jm_mk H t len sl) (k + 2) = jm_ln H (k + 2) := by
          show cond (Nat.beq (k + 2) (jm_n H + 2)) _ _ = _
          rw [hb]; rfl
        have a3 : jm_I (jm_mk H t len sl) (k + 2) = jm_I H (k + 2) := by
          funext j
          show cond (Nat.beq (k + 2) (jm_n H + 2)) _ _ = _
          rw [hb]; rfl
        have a4 : jm_L (jm_mk H t len sl) (k + 2) = jm_L H (k + 2) := by
          funext j
          show cond (Nat.beq (k + 2) (jm_n H + 2)) _ _ = _
          rw [hb]; rfl
        have a5 : jm_R (jm_mk H t len sl) (k + 2) = jm_R H (k + 2) := by
          funext j
          show cond (Nat.beq (k + 2) (jm_n H + 2)) _ _ = _
          rw [hb]; rfl
        unfold jm_ob jm_fs jm_fv jm_ar
        rw [a1, a2, a3, a4, a5]
      rw [e1]
      exact (g2 k hk').kept (ho _ (by omega))
  · by_cases e : r = jm_n H + 2
    · subst e
      refine ⟨by omega, by rw [hn]; omega, ?_⟩
      have : jm_tg (jm_mk H t len sl) (jm_n H + 2) = t := by
        show cond (Nat.beq (jm_n H + 2) (jm_n H + 2)) _ _ = _
        rw [Nat.beq_refl]; rfl
      rw [this]
      exact htt
    · rw [htg r e] at hr ⊢
      obtain ⟨a1, a2, a3⟩ := g4 r hr
      exact ⟨a1, by rw [hn]; omega, a3⟩
theorem jm_K.moved {D : va_G} {dA : Nat → ClassId} {b L : Nat} {xs : Nat → Int32} {H00 : Heap} {s U : State} (h : jm_K D dA b L xs H00 s) (hW : s.WarmedH U.vm) : jm_K D dA b L xs H00 U := by
  refine ⟨va_K.moved hW.alike h.1, h.2.1.moved hW.alike, fun w hw hg => ?_⟩
  have h1 := h.2.2 w hw hg
  unfold jm_gw at hg
  split at hg
  · exact va_Nw.warmM hW h1
  · exact va_AO.moved hW.alike h1
  · cases hg
theorem jm_K.blind {D : va_G} {dA : Nat → ClassId} {b L : Nat} {xs : Nat → Int32} {H00 : Heap} {U : State} (h : jm_K D dA b L xs H00 U) (g : JFrame) (mk : MethodId) (a : Array Value) : jm_K D dA b L xs H00 (U.calling g mk a) :=
  h.moved (State.WarmedH.refl U)
/-! out of the tables -/
theorem jm_cl_at {ci : Nat} (h : ci < 13) : jm_cl0[ci]? = some (jm_C ci, jm_T ci, jm_N ci) := by
  match ci, h with
  | 0, _ => rfl
  | 1, _ => rfl
  | 2, _ => rfl
  | 3, _ => rfl
  | 4, _ => rfl
  | 5, _ => rfl
  | 6, _ => rfl
  | 7, _ => rfl
  | 8, _ => rfl
  | 9, _ => rfl
  | 10, _ => rfl
  | 11, _ => rfl
  | 12, _ => rfl
def jm_ty (ci : Nat) : Nat → FieldType := jm_TY.getD ci tyX0
theorem jm_cl_ok {ci : Nat} (h : ci < 13) : (∀ a, a < jm_N ci → ∀ b, b < jm_N ci → a ≠ b → (jm_T ci a).2.1 ≠ (jm_T ci b).2.1) ∧ (∀ k, k < jm_N ci → parseFieldDescriptor (jm_T ci k).2.2.1 = some (jm_ty ci k)) := by
  match ci, h with
  | 0, _ => exact ⟨nmX0, tyX0_ok⟩
  | 1, _ => exact ⟨nmX1, tyX1_ok⟩
  | 2, _ => exact ⟨nmX2, tyX2_ok⟩
  | 3, _ => exact ⟨nmX3, tyX3_ok⟩
  | 4, _ => exact ⟨nmX4, tyX4_ok⟩
  | 5, _ => exact ⟨nmX5, tyX5_ok⟩
  | 6, _ => exact ⟨nmX6, tyX6_ok⟩
  | 7, _ => exact ⟨nmX7, tyX7_ok⟩
  | 8, _ => exact ⟨nmX8, tyX8_ok⟩
  | 9, _ => exact ⟨nmX9, tyX9_ok⟩
  | 10, _ => exact ⟨nmX10, tyX10_ok⟩
  | 11, _ => exact ⟨nmX11, tyX11_ok⟩
  | 12, _ => exact ⟨nmX12, tyX12_ok⟩
def jm_tc (t : FieldType) : Nat := match t with
  | .int => 0
  | .long => 1
  | .boolean => 3
  | .object _ => 2
  | .array _ => 2
  | _ => 9
theorem jm_tc_ok : (List.range 13).all (fun ci => (List.range (jm_N ci)).all fun k => jm_tc (jm_ty ci k) == jm_ft ci k) = true := by decide +kernel
theorem jm_tc_at {ci k : Nat} (h : ci < 13) (hk : k < jm_N ci) : jm_tc (jm_ty ci k) = jm_ft ci k := by
  have h1 := List.all_eq_true.mp jm_tc_ok ci (List.mem_range.mpr h)
  have h2 := List.all_eq_true.mp h1 k (List.mem_range.mpr hk)
  simpa using h2
theorem jm_fin_ok : (List.range 13).all (fun ci => (List.range (jm_N ci)).all fun k => (jm_fin.getD ci []).getD k false == (jm_T ci k).2.2.2) = true := by decide +kernel
theorem jm_fin_at {ci k : Nat} (h : ci < 13) (hk : k < jm_N ci) : (jm_fin.getD ci []).getD k false = (jm_T ci k).2.2.2 := by
  have h1 := List.all_eq_true.mp jm_fin_ok ci (List.mem_range.mpr h)
  have h2 := List.all_eq_true.mp h1 k (List.mem_range.mpr hk)
  simpa using h2
theorem jm_plc {ps : List Nat} {ws : List Jvm.Cond} (h : ps.map (fun p => lw_tbl[p]?) = ws.map some) : ∀ w ∈ ws, w ∈ lw_tbl := by
  intro w hw
  have h1 : some w ∈ ps.map (fun p => lw_tbl[p]?) := by rw [h]; exact List.mem_map.mpr ⟨w, hw, rfl⟩
  obtain ⟨q, -, hq⟩ := List.mem_map.mp h1
  exact List.mem_of_getElem? hq
theorem jm_lay_g {C : String} {T : u_T} {N : Nat} : ∀ w ∈ u_ws C T N, (goodWord w || jm_gw w) = true := by
  intro w hw
  obtain ⟨k, -, rfl⟩ := List.mem_map.mp hw
  unfold u_lay
  split <;> rfl
theorem jm_lay_in {ci : Nat} (h : ci < 13) : ∀ w ∈ u_ws (jm_C ci) (jm_T ci) (jm_N ci), w ∈ jm_tb := by
  have hl : jm_xl ci = true := by
    match ci, h with
    | 0, _ => exact jm_okl0
    | 1, _ => exact jm_okl1
    | 2, _ => exact jm_okl2
    | 3, _ => exact jm_okl3
    | 4, _ => exact jm_okl4
    | 5, _ => exact jm_okl5
    | 6, _ => exact jm_okl6
    | 7, _ => exact jm_okl7
    | 8, _ => exact jm_okl8
    | 9, _ => exact jm_okl9
    | 10, _ => exact jm_okl10
    | 11, _ => exact jm_okl11
    | 12, _ => exact jm_okl12
  unfold jm_xl at hl
  simp only [Bool.and_eq_true, decide_eq_true_eq] at hl
  exact fun w hw => jm_tb_in (jm_plc hl.1.1 w hw) (jm_lay_g w hw)
theorem jm_kall {ci : Nat} : (jm_ks.getD ci []).all (jm_xk ci) = true := by
  match ci with
  | 0 => exact jm_okk0
  | 1 => exact jm_okk1
  | 2 => exact jm_okk2
  | 3 => exact jm_okk3
  | 4 => exact jm_okk4
  | 5 => exact jm_okk5
  | 6 => exact jm_okk6
  | 7 => exact jm_okk7
  | 8 => exact jm_okk8
  | 9 => exact jm_okk9
  | 10 => exact jm_okk10
  | 11 => exact jm_okk11
  | 12 => exact jm_okk12
  | 13 => exact jm_okk13
  | 14 => exact jm_okk14
  | 15 => exact jm_okk15
  | 16 => exact jm_okk16
  | 17 => exact jm_okk17
  | n + 18 => rfl
theorem jm_wd_g {own : String} {idx : Nat} {e : Nat × Nat × Nat × Int} : ∀ w ∈ jm_wd own idx e, (goodWord w || jm_gw w) = true := by
  intro w hw
  unfold jm_wd at hw
  split at hw
  all_goals simp only [List.mem_cons, List.not_mem_nil, or_false] at hw
  all_goals first | (rcases hw with rfl | rfl | rfl | rfl <;> rfl) | (rcases hw with rfl | rfl | rfl <;> rfl) | (rcases hw with rfl | rfl <;> rfl) | (subst hw; rfl)
/-- what a link gives: its words, and that its numbers are in range -/
theorem jm_lnk {ci idx : Nat} {e : Nat × Nat × Nat × Int} (h : jm_rs ci idx = some e) : (∀ w ∈ jm_wd (jm_own.getD ci "") idx e, w ∈ jm_tb) ∧ ∃ ps, jm_xk ci (idx, e, ps) = true := by
  unfold jm_rs at h
  cases hl : (jm_ks.getD ci []).lookup idx with
  | none => rw [hl] at h; cases h
  | some x =>
    rw [hl] at h
    cases h
    have h1 := List.all_eq_true.mp (jm_kall (ci := ci)) _ (jm_lkp hl)
    refine ⟨?_, x.2, h1⟩
    have h2 := h1
    unfold jm_xk at h2
    rw [Bool.and_eq_true] at h2
    exact fun w hw => jm_tb_in (jm_plc (of_decide_eq_true h2.1) w hw) (jm_wd_g w hw)
