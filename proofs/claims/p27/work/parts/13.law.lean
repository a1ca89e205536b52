/-! the law's start: the tables' words give classes and slots; the heap is empty; the interpreter's run of the law is the machine's -/
def jm_H0 : jm_H := ((0, 0), fun _ => 0, fun _ => 0, fun _ _ => 0, fun _ _ => 0, fun _ _ => 0)
theorem jm_ins_in {ci : Nat} (h : ci < 13) : Cond.instantiable (jm_C ci) (jm_N ci) ∈ lw_tbl := by
  have hl : jm_xl ci = true := by
    match ci, h with
    | 0, _ => exact jm_okl0
    | 1, _ => exact jm_okl1
    | 2, _ => exact jm_okl2
    | 3, _ => exact jm_okl3
    | 4, _ => exact jm_okl4
    | 5, _ => exact jm_okl5
    | 6, _ => exact jm_okl6
    | 7, _ => exact jm_okl7
    | 8, _ => exact jm_okl8
    | 9, _ => exact jm_okl9
    | 10, _ => exact jm_okl10
    | 11, _ => exact jm_okl11
    | 12, _ => exact jm_okl12
  unfold jm_xl at hl
  simp only [Bool.and_eq_true, decide_eq_true_eq] at hl
  exact List.mem_of_getElem? hl.2
theorem jm_cl_lt {c : Nat} {q : vw_C} (h : jm_cl0[c]? = some q) : c < 13 := (List.getElem?_eq_some_iff.mp h).1
theorem jm_arrs {args : Array Value} {s : State} (hts : ∀ w ∈ lw_tbl, w.before args s = true) : ∀ t, ∃ cA : ClassId, t < 6 → ArrOfT s cA (jm_aty t) ∧ va_RA s cA (jm_aty t) := by
  have hops := jm_plc jm_opx
  have prim : ∀ ty : FieldType, Cond.arrayClass ty ∈ lw_tbl → ∃ cA : ClassId, ArrOfT s cA ty ∧ s.vm.findClass ("[" ++ ty.toString) = some cA := by
    intro ty h
    obtain ⟨c, k, comp, h1, h2, h3⟩ := Cond.arrayClass_spec (hts _ h)
    exact ⟨c, fun n z => ⟨fun k h => (by cases h), k, h2, comp, h3⟩, h1⟩
  have obj : ∀ C : String, Cond.arrayOver (.object C) ∈ lw_tbl → ∃ cA : ClassId, ArrOfT s cA (.object C) ∧ va_RA s cA (.object C) := by
    intro C h
    obtain ⟨comp, c, k, h1, h2, h3, h4, h5⟩ := Cond.arrayOver_spec (hts _ h)
    exact ⟨c, fun n z => ⟨fun k h => (by cases h), k, h3, comp, h4⟩, k, comp, h3, h4, h1, h5⟩
  intro t
  by_cases ht : t < 6
  · match t, ht with
    | 0, _ => obtain ⟨c, h1, h2⟩ := prim .int (hops _ (List.mem_of_getElem? (i := 2) rfl)); exact ⟨c, fun _ => ⟨h1, h2⟩⟩
    | 1, _ => obtain ⟨c, h1, h2⟩ := prim .long (hops _ (List.mem_of_getElem? (i := 3) rfl)); exact ⟨c, fun _ => ⟨h1, h2⟩⟩
    | 2, _ => obtain ⟨c, h1, h2⟩ := prim .byte (hops _ (List.mem_of_getElem? (i := 4) rfl)); exact ⟨c, fun _ => ⟨h1, h2⟩⟩
    | 3, _ => obtain ⟨c, h1, h2⟩ := prim .boolean (hops _ (List.mem_of_getElem? (i := 5) rfl)); exact ⟨c, fun _ => ⟨h1, h2⟩⟩
    | 4, _ => obtain ⟨c, h1, h2⟩ := obj _ (hops _ (List.mem_of_getElem? (i := 6) rfl)); exact ⟨c, fun _ => ⟨h1, h2⟩⟩
    | 5, _ => obtain ⟨c, h1, h2⟩ := obj _ (hops _ (List.mem_of_getElem? (i := 7) rfl)); exact ⟨c, fun _ => ⟨h1, h2⟩⟩
  · exact ⟨0, fun h => absurd h ht⟩
theorem jm_forget {s t : State} {o : Outcome} {L : List Loc} {k n k' n' : Nat} (h : FrameEnd s o t L k n) (hL : ∀ q ∈ L, s.heap.size ≤ q.base) (hk : k ≤ k') (hn : n ≤ n') : Framed s o t [] k' n' := by
  obtain ⟨h1, h2, h3⟩ := h
  refine ⟨h1, h2, ?_⟩
  obtain ⟨a1, a2, a3, a4, a5, a6⟩ := h3
  refine ⟨a1, a2, Nat.le_trans a3 (by omega), a4, Nat.le_trans a5 hn, fun a c hc => ?_⟩
  obtain ⟨c', b1, b2, b3, b4⟩ := a6 a c hc
  refine ⟨c', b1, b2, b3, fun i _ => b4 i (fun q => ?_)⟩
  have := hL _ q
  have h4 := (Array.getElem?_eq_some_iff.mp hc).1
  exact Nat.not_le.mpr h4 this
theorem jm_whole {p : Program} {e : Env} {s : State} {m : MethodId} {below : List Frame} {meth : Method} {c : Code} (l : Launch) {b L : Nat} {xs : Nat → Int32} (C0 : lw_At p s m meth c b L xs) {n : Nat} {H' : jm_H}
    (hrun : jm_ev (some (L, xs)) n 49 255 0 (jm_en 255 [.ref 1]) [] jm_H0 = some (some (.int 1), H')) (hn : jm_n H' ≤ 600000) (hs : jm_s H' ≤ 7302249) :
    W p l e room_1 s m #[Value.ref b] below meth c s.heap [] 0 0 (lw_Z below #[Value.ref b] s) (entryFrame m ([Value.ref b] : List Value).toArray (jm_mx 255)) := by
  obtain ⟨hx, hb, hr, hml, hown, hts, hX, hbl, hlk, hgv⟩ := C0
  have hk : ∀ ci, ∃ (cC : ClassId) (iS : Nat → Nat), ci < 13 → u_Kn s (jm_C ci) (jm_T ci) (jm_N ci) cC iS := by
    intro ci
    by_cases h : ci < 13
    · obtain ⟨cC, iS, h1⟩ := u_known (C := jm_C ci) (T := jm_T ci) (N := jm_N ci) (n := jm_N ci) hts (fun w hw => (jm_tb_of (jm_lay_in h w hw)).1) (hts _ (jm_ins_in h))
      exact ⟨cC, iS, fun _ => h1⟩
    · exact ⟨0, fun _ => 0, fun q => absurd q h⟩
  have ha := jm_arrs hts
  let D : va_G := (fun ci => Classical.choose (hk ci), fun ci => Classical.choose (Classical.choose_spec (hk ci)))
  let dA : Nat → ClassId := fun t => Classical.choose (ha t)
  have hD : ∀ ci, ci < 13 → u_Kn s (jm_C ci) (jm_T ci) (jm_N ci) (D.1 ci) (D.2 ci) := fun ci h => Classical.choose_spec (Classical.choose_spec (hk ci)) h
  have hA : ∀ t, t < 6 → ArrOfT s (dA t) (jm_aty t) ∧ va_RA s (dA t) (jm_aty t) := fun t h => Classical.choose_spec (ha t) h
  have hK : jm_K D dA b L xs s.heap s := by
    refine ⟨⟨fun ci q hq => ?_, fun k q hq => ?_⟩, hX, fun w hw hg => ?_⟩
    · have h13 := jm_cl_lt hq
      have hq2 := jm_cl_at h13
      rw [hq] at hq2
      cases hq2
      exact hD ci h13
    · have h6 : k < 6 := (List.getElem?_eq_some_iff.mp hq).1
      have hq2 := jm_tys_at (dA := dA) h6
      rw [hq] at hq2
      cases hq2
      exact hA k h6
    · have h1 := hts w hw
      unfold jm_gw at hg
      split at hg
      · exact va_Nw.of rfl h1
      · exact va_AO.of h1
      · cases hg
  have hgo := jm_sound (l := l) (D := D) (dA := dA) (base := s.heap.size) (b := b) (H00 := s.heap) n 49 255 0 _ [] jm_H0 (some (.int 1)) H' hrun (by decide) (by decide)
  have hlr := jm_lr_en (base := s.heap.size) (b := b) (n := jm_mx 255) (mi := 255) (as := [.ref 1]) rfl (by decide +kernel)
  have hcv : ([Value.ref 1] : List Value).map (jm_cv s.heap.size b) = [Value.ref b] := rfl
  rw [hcv] at hlr
  have hw := hgo p e room_1 s m #[Value.ref b] below meth c s.heap [] 0 0 _ ⟨hx, hb, hr, hml, hown, fun w hw => hts w (jm_tb_of hw).1, hlk, fun hn => absurd hn (by decide +kernel), hK, jm_xma (by decide), hbl, rfl⟩
    ⟨rfl, fun k hk => absurd hk (Nat.not_lt_zero _), fun _ _ => rfl, fun r hr => absurd rfl hr⟩ hlr (fun _ h => by cases h) (by decide) (by decide) (by show 0 + (jm_n H' - 0) ≤ 600000; omega) (by show 0 + (jm_s H' - 0) ≤ 7302249; omega)
  rw [lg_entry_eq]
  intro T hT X
  obtain ⟨t, a1, o, b1, b2, b3, L', b4, b5⟩ := hw T hT X
  refine ⟨t, a1, o, b1, b2, b3.1, ?_⟩
  exact jm_forget b4 b5 (by show 0 + (jm_n H' - 0) ≤ 600000; omega) (by show 0 + (jm_s H' - 0) ≤ 7302249; omega)
