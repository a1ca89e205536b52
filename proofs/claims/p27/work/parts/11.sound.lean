section JSM
variable {l : Launch} {base b L : Nat} {xs : Nat → Int32} {H00 : Heap} {D : va_G} {dA : Nat → ClassId}
variable {p : Program} {e : Env} {R : Room} {s : State} {m : MethodId} {args : Array Value} {below : List Frame} {meth : Method} {c : Code} {M : Heap} {locs : List Loc} {cells slots : Nat} {Q : State → Prop}
theorem jm_wd1 {own : String} {idx : Nat} {e : Nat × Nat × Nat × Int} (h : e.1 = 1) : jm_wd own idx e = [.methodLink own idx (jm_y e.2.1), .static (jm_y e.2.1), .initialized (jm_y e.2.1).cls] := by unfold jm_wd; rw [h]; rfl
theorem jm_wd2 {own : String} {idx : Nat} {e : Nat × Nat × Nat × Int} (h : e.1 = 2) : jm_wd own idx e = [.methodLink own idx (jm_y e.2.1), .instanceMethod (jm_y e.2.1), .selects (jm_y e.2.1).cls (jm_y e.2.1) (jm_y e.2.1), .initialized (jm_y e.2.1).cls] := by unfold jm_wd; rw [h]; rfl
theorem jm_wd3 {own : String} {idx : Nat} {e : Nat × Nat × Nat × Int} (h : e.1 = 3) : jm_wd own idx e = [.methodLink own idx (jm_y e.2.1), .instanceMethod (jm_y e.2.1), .initialized (jm_y e.2.1).cls] := by unfold jm_wd; rw [h]; rfl
theorem jm_wd4 {own : String} {idx : Nat} {e : Nat × Nat × Nat × Int} (h : e.1 = 4) : jm_wd own idx e = [.methodLinkNest own idx (jm_y e.2.1) "TaperedNumbers", .instanceMethod (jm_y e.2.1), .initialized (jm_y e.2.1).cls] := by unfold jm_wd; rw [h]; rfl
theorem jm_wd5 {own : String} {idx : Nat} {e : Nat × Nat × Nat × Int} (h : e.1 = 5) : jm_wd own idx e = [.methodLink own idx Lib.objectInit] := by unfold jm_wd; rw [h]; rfl
theorem jm_xk1 {ci idx : Nat} {e : Nat × Nat × Nat × Int} {ps : List Nat} (h : jm_xk ci (idx, e, ps) = true) (h0 : e.1 = 1 ∨ e.1 = 2) : e.2.1 < 255 := by
  unfold jm_xk at h
  rw [Bool.and_eq_true] at h
  have h2 := h.2
  dsimp only at h2
  rcases h0 with h0 | h0 <;> rw [h0] at h2 <;> simpa using h2
theorem jm_xk3 {ci idx : Nat} {e : Nat × Nat × Nat × Int} {ps : List Nat} (h : jm_xk ci (idx, e, ps) = true) (h0 : e.1 = 3 ∨ e.1 = 4) : e.2.1 < 255 ∧ (jm_y e.2.1).name = "<init>" ∧ jm_ret e.2.1 = none := by
  unfold jm_xk at h
  rw [Bool.and_eq_true] at h
  have h2 := h.2
  dsimp only at h2
  rcases h0 with h0 | h0 <;> rw [h0] at h2 <;> simp only [Bool.and_eq_true, decide_eq_true_eq] at h2 <;> exact ⟨h2.1.1, h2.1.2, h2.2⟩
theorem jm_in1 {w x y : Jvm.Cond} {q : List Jvm.Cond} {T : List Jvm.Cond} (h : ∀ v ∈ (w :: x :: y :: q), v ∈ T) : w ∈ T ∧ x ∈ T ∧ y ∈ T := ⟨h _ List.mem_cons_self, h _ (List.mem_cons_of_mem _ List.mem_cons_self), h _ (List.mem_cons_of_mem _ (List.mem_cons_of_mem _ List.mem_cons_self))⟩
theorem jm_en_len {mj : Nat} {as : List Value} {A : Array Slot} {n : Nat} : (as.flatMap (fun v => if jm_v2 v then [v, .null] else [v])).length ≤ (jm_en mj as).length := by
  unfold jm_en
  simp
set_option maxHeartbeats 4000000 in
/-- a call of one of the program's own methods -/
theorem jm_call_s {mi pc Dp : Nat} {ins : Instr} {st q as : List Value} {A : Array Slot} {H H' : jm_H} {r : Option Value} (C : jm_Cx D dA base b L xs H00 mi p s m args meth c) (hdg : decode (jm_b mi) pc = .ok (ins, 3)) (hW : jm_W0 D dA base b H00 M H)
    (hA : A.size = jm_mx mi) (hcl : jm_cl ins (jm_rv mi ins) st H = some (some as, q)) (hen : (as.flatMap (fun v => if jm_v2 v then [v, .null] else [v])).length ≤ jm_mx (jm_rv mi ins).2.1)
    (hrk : jm_rk (jm_rv mi ins).2.1 as < Dp) (hgo : jm_Go l D dA base b L xs H00 (jm_rk (jm_rv mi ins).2.1 as) (jm_rv mi ins).2.1 0 (jm_en (jm_rv mi ins).2.1 as) [] H r H')
    (hf : Dp ≤ R.frames) (hl : Dp * 60 ≤ R.locals) (hc : cells + (jm_n H' - jm_n H) ≤ R.cells) (hs : slots + (jm_s H' - jm_s H) ≤ R.slots) (hlo : ∀ q ∈ locs, base ≤ q.base)
    (kk : ∀ (M' : Heap) (locs' : List Loc), jm_W0 D dA base b H00 M' H' → (∀ q ∈ locs', base ≤ q.base) → W p l e R s m args below meth c M' locs' (cells + (jm_n H' - jm_n H)) (slots + (jm_s H' - jm_s H)) Q (F0 m (pc + 3) A ((r.toList ++ q).map (jm_cv base b)))) :
    W p l e R s m args below meth c M locs cells slots Q (F0 m pc A (st.map (jm_cv base b))) := by
  obtain ⟨hx, hb, hr, hml, hown, hts, hlk, hin, hK, hm, hbb, hs0⟩ := C
  have key : ∀ (mj : Nat), mj = (jm_rv mi ins).2.1 → mj < 255 → ∃ rm : Room, rm.cells = jm_n H' - jm_n H ∧ rm.slots = jm_s H' - jm_s H ∧ rm.frames + 1 ≤ R.frames ∧ 8 + (jm_mx mj + 11) + rm.locals ≤ R.locals ∧ Met l (jm_y mj) (jm_wo mj) rm (jm_P D dA base b L xs H00 as H) (jm_Q D dA base b H00 r H') (jm_n H' - jm_n H) (jm_s H' - jm_s H) (fun q => base ≤ q) := by
    intro mj e1 hmj
    subst e1
    have hmx := (jm_xm_all (jm_xma (mi := (jm_rv mi ins).2.1) (by omega))).2.2.2.2
    refine ⟨_, rfl, rfl, ?_, ?_, jm_met hmj hbb hs0 hen hgo⟩
    · show jm_rk _ as + 1 ≤ _; omega
    · show _ + jm_rk _ as * 60 ≤ _
      have : (jm_rk (jm_rv mi ins).2.1 as + 1) * 60 ≤ Dp * 60 := Nat.mul_le_mul_right _ hrk
      omega
  have fin : ∀ (M1 : Heap) (L1 : List Loc), jm_W0 D dA base b H00 M1 H' → (∀ q ∈ L1, base ≤ q.base) → W p l e R s m args below meth c M1 (locs ++ L1) (cells + (jm_n H' - jm_n H)) (slots + (jm_s H' - jm_s H)) Q (F0 m (pc + 3) A ((r.map (jm_cv base b)).toList ++ q.map (jm_cv base b))) := by
    intro M1 L1 h1 h2
    have := kk M1 (locs ++ L1) h1 (fun z hz => (List.mem_append.mp hz).elim (hlo z) (h2 z))
    rw [List.map_append] at this
    cases r <;> exact this
  unfold jm_cl at hcl
  split at hcl
  · next i =>
    split at hcl
    · next h1 =>
      obtain ⟨hw, ps, hp⟩ := jm_link hm (ins := .invokestatic i) rfl h1 (by decide)
      rw [jm_wd1 h1] at hw
      obtain ⟨w1, w2, w3⟩ := jm_in1 hw
      have hmj := jm_xk1 hp (Or.inl h1)
      split at hcl
      · next as' q' hcut =>
        split at hcl
        · next h8 =>
          cases hcl
          obtain ⟨rm, r1, r2, r3, r4, hM⟩ := key _ rfl hmj
          obtain ⟨g1, g2⟩ := jm_cut_s hcut
          have hxm := jm_xm_all (jm_xma (mi := (jm_rv mi (.invokestatic i)).2.1) (by omega))
          have cw := callB_of (R := R) (own := (jm_y mi).cls) (index := i) (jm_np (jm_rv mi (.invokestatic i)).2.1) hts (jm_wo_good hmj) rfl r1 r2 (hts _ w3) (hts _ w1) ⟨hxm.2.1.1, hxm.2.1.2, hxm.2.2.1⟩ ⟨r3, r4⟩
          refine jm_run_W (v0 := r.map (jm_cv base b)) (PW := fun h => jm_W0 D dA base b H00 h H') (va_runS (As := as.map (jm_cv base b)) (rest := q.map (jm_cv base b)) ⟨hx, hb, hml, hown, hts⟩ hM ⟨cw, hts _ w2⟩ ⟨jm_blind, jm_pre hW hK⟩ rfl (by rw [List.length_map]; exact g2) hA (by rw [g1]; simp) (by show 2 * 0 + _ ≤ 8; rw [jm_cs_cv]; omega) hdg ⟨hc, hs⟩) fin
        · cases hcl
      · cases hcl
    · cases hcl
  · next i =>
    split at hcl
    · next h1 =>
      obtain ⟨hw, ps, hp⟩ := jm_link hm (ins := .invokevirtual i) rfl h1 (by decide)
      rw [jm_wd2 h1] at hw
      obtain ⟨w1, w2, w3⟩ := jm_in1 hw
      have w4 := hw _ (List.mem_cons_of_mem _ (List.mem_cons_of_mem _ (List.mem_cons_of_mem _ List.mem_cons_self)))
      have hmj := jm_xk1 hp (Or.inr h1)
      split at hcl
      · next rr as' q' hcut =>
        split at hcl
        · next h8 =>
          cases hcl
          obtain ⟨rm, r1, r2, r3, r4, hM⟩ := key _ rfl hmj
          obtain ⟨g1, g2⟩ := jm_cut_s hcut
          have hxm := jm_xm_all (jm_xma (mi := (jm_rv mi (.invokevirtual i)).2.1) (by omega))
          have hci := (jm_ci18 (mi := (jm_rv mi (.invokevirtual i)).2.1) (by omega)).1
          have ht := h8.2
          have hwf := hW.2.2.2 rr (by omega)
          have hc13 : jm_ci (jm_rv mi (.invokevirtual i)).2.1 < 13 := by omega
          have hat := (hW.P (r := rr) (by omega)).2.2
          rw [jm_ob_o ht hc13] at hat
          obtain ⟨rq, e1, cell, q1, q2, q3, -⟩ := hat
          have hrq : rq = (jm_C _, jm_T _, jm_N _) := Option.some.inj (e1.symm.trans (jm_cl_at hc13))
          subst hrq
          have hfc := (hK.1.1 _ _ (jm_cl_at hc13)).2.1
          have hCn : (jm_y (jm_rv mi (.invokevirtual i)).2.1).cls = jm_C (jm_ci (jm_rv mi (.invokevirtual i)).2.1) := hxm.1.trans (jm_own_C hc13)
          have cw := callB_of (R := R) (own := (jm_y mi).cls) (index := i) (jm_np (jm_rv mi (.invokevirtual i)).2.1) hts (jm_wo_good hmj) rfl r1 r2 (hts _ w4) (hts _ w1) ⟨hxm.2.1.1, hxm.2.1.2, hxm.2.2.1⟩ ⟨r3, r4⟩
          refine jm_run_W (v0 := r.map (jm_cv base b)) (PW := fun h => jm_W0 D dA base b H00 h H') (va_runV (As := as'.map (jm_cv base b)) (b := jm_ad base b rr) (rest := q.map (jm_cv base b)) ⟨hx, hb, hml, hown, hts⟩ hM ⟨cw, hts _ w2, hts _ w3⟩ ⟨jm_blind, ⟨cell, q1, by rw [q3]; rfl, by rw [hCn, q2]; exact hfc⟩, jm_pre hW hK⟩ rfl (by rw [List.length_map]; simpa using g2) hA (by rw [g1]; simp [jm_cv]) (by show 2 * 0 + _ ≤ 8; rw [jm_cs_cv]; omega) hdg ⟨hc, hs⟩) fin
        · cases hcl
      · cases hcl
    · cases hcl
  · next i =>
    split at hcl
    · split at hcl
      · split at hcl <;> cases hcl
      · cases hcl
    · split at hcl
      · next h1 =>
        split at hcl
        · next rr as' q' hcut =>
          split at hcl
          · next h8 =>
            cases hcl
            obtain ⟨g1, g2⟩ := jm_cut_s hcut
            obtain ⟨hw, ps, hp⟩ := jm_link hm (ins := .invokespecial i) (k := (jm_rv mi (.invokespecial i)).1) rfl rfl (by omega)
            obtain ⟨hmj, hn1, hn2⟩ := jm_xk3 hp h1
            obtain ⟨rm, r1, r2, r3, r4, hM⟩ := key _ rfl hmj
            have hxm := jm_xm_all (jm_xma (mi := (jm_rv mi (.invokespecial i)).2.1) (by omega))
            have hwo : jm_wo (jm_rv mi (.invokespecial i)).2.1 = .code (jm_y (jm_rv mi (.invokespecial i)).2.1) (jm_b (jm_rv mi (.invokespecial i)).2.1) (jm_mx (jm_rv mi (.invokespecial i)).2.1) none :: lw_tbl.filter goodWord := by rw [← hn2]; rfl
            rcases h1 with h1 | h1
            · rw [jm_wd3 h1] at hw
              obtain ⟨w1, w2, w3⟩ := jm_in1 hw
              have cw := callB_of (R := R) (own := (jm_y mi).cls) (index := i) (jm_np (jm_rv mi (.invokespecial i)).2.1) hts (jm_wo_good hmj) hwo r1 r2 (hts _ w3) (hts _ w1) ⟨hxm.2.1.1, hxm.2.1.2, hxm.2.2.1⟩ ⟨r3, r4⟩
              refine jm_run_W (v0 := r.map (jm_cv base b)) (PW := fun h => jm_W0 D dA base b H00 h H') (va_runI (As := as'.map (jm_cv base b)) (b := jm_ad base b rr) (rest := q.map (jm_cv base b)) ⟨hx, hb, hml, hown, hts⟩ hM ⟨cw, hn1, hts _ w2⟩ ⟨jm_blind, jm_pre hW hK⟩ rfl (by rw [List.length_map]; simpa using g2) hA (by rw [g1]; simp [jm_cv]) (by show 2 * 0 + _ ≤ 8; rw [jm_cs_cv]; omega) hdg ⟨hc, hs⟩) fin
            · rw [jm_wd4 h1] at hw
              obtain ⟨w1, w2, w3⟩ := jm_in1 hw
              have cw := va_cnB (R := R) (own := (jm_y mi).cls) (index := i) (host := "TaperedNumbers") (jm_np (jm_rv mi (.invokespecial i)).2.1) hts (jm_wo_good hmj) hwo r1 r2 (hK.2.2 _ (jm_tb_of w1).1 rfl) (hts _ w3) ⟨hxm.2.1.1, hxm.2.1.2, hxm.2.2.1⟩ ⟨r3, r4⟩
              refine jm_run_W (v0 := r.map (jm_cv base b)) (PW := fun h => jm_W0 D dA base b H00 h H') (va_runIN (As := as'.map (jm_cv base b)) (b := jm_ad base b rr) (rest := q.map (jm_cv base b)) ⟨hx, hb, hml, hown, hts⟩ hM ⟨cw, hn1, hts _ w2⟩ ⟨jm_blind, jm_pre hW hK⟩ rfl (by rw [List.length_map]; simpa using g2) hA (by rw [g1]; simp [jm_cv]) (by show 2 * 0 + _ ≤ 8; rw [jm_cs_cv]; omega) hdg ⟨hc, hs⟩) fin
          · cases hcl
        · cases hcl
      · cases hcl
  · cases hcl
theorem jm_rt_s {ret : Option FieldType} {ins : Instr} {st : List Value} {r : Option Value} (h : jm_rt ret ins st = some r) : (ins = .return_ ∧ ret = none ∧ st = [] ∧ r = none) ∨ (∃ t v, ins = .ireturn ∧ ret = some t ∧ st = [.int v] ∧ narrow t (.int v) = .int v ∧ r = some (.int v)) ∨ (∃ v, ins = .lreturn ∧ ret = some .long ∧ st = [.long v] ∧ r = some (.long v)) := by
  unfold jm_rt at h
  split at h
  · cases h; exact Or.inl ⟨rfl, rfl, rfl, rfl⟩
  · split at h
    · next hn => cases h; exact Or.inr (Or.inl ⟨_, _, rfl, rfl, rfl, hn, rfl⟩)
    · cases h
  · cases h; exact Or.inr (Or.inr ⟨_, rfl, rfl, rfl, rfl⟩)
  · cases h
theorem jm_kd_sw {ins : Instr} (h : jm_kd ins ≠ 2) : jm_sw ins = false := by
  cases ins <;> first | rfl | exact absurd rfl h
theorem jm_kd3 {ins : Instr} (h : jm_kd ins = 2) (h2 : jm_sw ins = false) : jm_len ins = 3 := by
  cases ins <;> first | rfl | (cases h; done) | cases h2
theorem jm_cl_kd {ins : Instr} {e : Nat × Nat × Nat × Int} {st : List Value} {H : jm_H} {x : Option (List Value) × List Value} (h : jm_cl ins e st H = some x) : jm_len ins = 3 ∧ jm_sw ins = false := by
  cases ins <;> first | exact ⟨rfl, rfl⟩ | cases h
theorem jm_cl_none {ins : Instr} {e : Nat × Nat × Nat × Int} {st q : List Value} {H : jm_H} (h : jm_cl ins e st H = some (none, q)) : ∃ i r, ins = .invokespecial i ∧ e.1 = 5 ∧ st = .ref r :: q ∧ jm_cs q ≤ 8 := by
  unfold jm_cl at h
  split at h
  · split at h
    · split at h
      · split at h <;> cases h
      · cases h
    · cases h
  · split at h
    · split at h
      · split at h <;> cases h
      · cases h
    · cases h
  · split at h
    · next h5 =>
      split at h
      · split at h
        · next h8 => cases h; exact ⟨_, _, rfl, h5, rfl, h8⟩
        · cases h
      · cases h
    · split at h
      · split at h
        · split at h <;> cases h
        · cases h
      · cases h
  · cases h
theorem jm_cl_mj {mi : Nat} {ins : Instr} {st q as : List Value} {H : jm_H} (hm : jm_xm mi = true) (h : jm_cl ins (jm_rv mi ins) st H = some (some as, q)) : (jm_rv mi ins).2.1 < 255 := by
  unfold jm_cl at h
  split at h
  · next i =>
    split at h
    · next h1 =>
      obtain ⟨hw, ps, hp⟩ := jm_link hm (ins := .invokestatic i) rfl h1 (by decide)
      exact jm_xk1 hp (Or.inl h1)
    · cases h
  · next i =>
    split at h
    · next h1 =>
      obtain ⟨hw, ps, hp⟩ := jm_link hm (ins := .invokevirtual i) rfl h1 (by decide)
      exact jm_xk1 hp (Or.inr h1)
    · cases h
  · next i =>
    split at h
    · split at h
      · split at h <;> cases h
      · cases h
    · split at h
      · next h1 =>
        obtain ⟨hw, ps, hp⟩ := jm_link hm (ins := .invokespecial i) (k := (jm_rv mi (.invokespecial i)).1) rfl rfl (by omega)
        exact (jm_xk3 hp h1).1
      · cases h
  · cases h
end JSM
section JMM
variable {l : Launch} {base b L : Nat} {xs : Nat → Int32} {H00 : Heap} {D : va_G} {dA : Nat → ClassId}
theorem jm_en_le {mj : Nat} {as : List Value} (h : (jm_en mj as).length = jm_mx mj) : (as.flatMap (fun v => if jm_v2 v then [v, .null] else [v])).length ≤ jm_mx mj := by
  unfold jm_en at h
  simp only [List.length_append, List.length_replicate] at h
  omega
set_option maxHeartbeats 8000000 in
/-- what the interpreter comes to, the machine comes to -/
theorem jm_sound : ∀ (n Dp mi pc : Nat) (ls st : List Value) (H : jm_H) (r : Option Value) (H' : jm_H), jm_ev (some (L, xs)) n Dp mi pc ls st H = some (r, H') → mi < 256 → 1 ≤ Dp → jm_Go l D dA base b L xs H00 Dp mi pc ls st H r H'
  | 0, Dp, mi, pc, ls, st, H, r, H', h, _, _ => by cases h
  | n + 1, Dp, mi, pc, ls, st, H, r, H', h, hmi, hD => by
    intro p e R s m args below meth c M locs cells slots A C hW hlr hlo hf hl hc hs
    have hx := C.1
    have hb := C.2.1
    rw [jm_ev] at h
    split at h
    · cases h
    · next ins hat =>
      obtain ⟨hxi, len, hdg0, hlen⟩ := jm_at_s hmi hat
      split at h
      · next hk =>
        split at h
        · cases h
        · next st' hst =>
          have hdg : decode (jm_b mi) pc = .ok (ins, jm_len ins) := by rw [hdg0, hlen (jm_kd_sw (by rw [hk]; decide))]
          exact jm_alu_s hx hb hdg hst (jm_sound n _ _ _ _ _ _ _ _ h hmi hD p e R s m args below meth c M locs cells slots A C hW hlr hlo hf hl hc hs)
      · next hk =>
        split at h
        · cases h
        · next y hst =>
          have hdg : decode (jm_b mi) pc = .ok (ins, jm_len ins) := by rw [hdg0, hlen (jm_kd_sw (by rw [hk]; decide))]
          exact jm_loc_s hx hb hdg hlr (ls' := y.1) (st' := y.2) hst fun A' h' => jm_sound n _ _ _ _ _ _ _ _ h hmi hD p e R s m args below meth c M locs cells slots A' C hW h' hlo hf hl hc hs
      · next hk =>
        split at h
        · cases h
        · next y hst =>
          exact jm_br_s hx hb hdg0 (fun q => by rw [hlen q]; exact jm_kd3 hk q) (pc' := y.1) (st' := y.2) hst (jm_sound n _ _ _ _ _ _ _ _ h hmi hD p e R s m args below meth c M locs cells slots A C hW hlr hlo hf hl hc hs)
      · next hk =>
        split at h
        · cases h
        · next y hst =>
          have hdg : decode (jm_b mi) pc = .ok (ins, jm_len ins) := by rw [hdg0, hlen (jm_kd_sw (by rw [hk]; decide))]
          have c1 := jm_hq_n (st' := y.1) (H' := y.2) hst
          have c2 := jm_cnt n _ _ _ _ _ _ _ _ h
          refine jm_hq_s C hdg hxi hW hlo (st' := y.1) (H' := y.2) hst (by omega) (by omega) fun M' locs' hW' hlo' => ?_
          have := jm_sound n _ _ _ _ _ _ _ _ h hmi hD p e R s m args below meth c M' locs' (cells + (jm_n y.2 - jm_n H)) (slots + (jm_s y.2 - jm_s H)) A C hW' hlr hlo' hf hl (by omega) (by omega)
          rw [show cells + (jm_n y.2 - jm_n H) + (jm_n H' - jm_n y.2) = cells + (jm_n H' - jm_n H) by omega, show slots + (jm_s y.2 - jm_s H) + (jm_s H' - jm_s y.2) = slots + (jm_s H' - jm_s H) by omega] at this
          exact this
      · next hk =>
        split at h
        · cases h
        · next r' hrt =>
          cases h
          have hdg : decode (jm_b mi) pc = .ok (ins, jm_len ins) := by rw [hdg0, hlen (jm_kd_sw (by rw [hk]; decide))]
          have hr := C.2.2.1
          have hlk : meth.locks = false := C.2.2.2.2.2.2.1
          rw [Nat.sub_self, Nat.sub_self]
          rcases jm_rt_s hrt with ⟨rfl, e2, rfl, rfl⟩ | ⟨t, v, rfl, e2, rfl, hn, rfl⟩ | ⟨v, rfl, e2, rfl, rfl⟩
          · exact W.vret hx hb (hr.trans e2) (fun t ht _ => ⟨rfl, by rw [ht]; exact hW⟩) hlo hdg hlk
          · exact W.zret hx hb (hr.trans e2) hn (fun t ht _ => ⟨rfl, by rw [ht]; exact hW⟩) hlo hdg hlk
          · exact W.lret hx hb (hr.trans e2) (fun t ht _ => ⟨rfl, by rw [ht]; exact hW⟩) hlo hdg hlk
      · split at h
        · cases h
        · next y hcl =>
          obtain ⟨g1, g2⟩ := jm_cl_kd hcl
          have hdg : decode (jm_b mi) pc = .ok (ins, 3) := by rw [hdg0, hlen g2, g1]
          split at h
          · next hno =>
            have k0 := jm_sound n _ _ _ _ _ _ _ _ h hmi hD p e R s m args below meth c M locs cells slots A C hW hlr hlo hf hl hc hs
            obtain ⟨y1, y2⟩ := y
            dsimp only at hno k0 h
            subst hno
            obtain ⟨i, rr, rfl, h5, rfl, h8⟩ := jm_cl_none hcl
            have hm : jm_xm mi = true := C.2.2.2.2.2.2.2.2.2.1
            have hts := C.2.2.2.2.2.1
            obtain ⟨hw, ps, hp⟩ := jm_link hm (ins := .invokespecial i) rfl h5 (by decide)
            rw [jm_wd5 h5] at hw
            have hops := jm_plc jm_opx
            refine W.objInit hx hb C.2.2.2.2.1 (hts _ (hw _ List.mem_cons_self)) (hts _ (jm_tb_in (hops _ (List.mem_of_getElem? (i := 1) rfl)) rfl)) (hts _ (jm_tb_in (hops _ (List.mem_of_getElem? (i := 0) rfl)) rfl)) rfl ?_ rfl hdg (by omega) ?_ k0
            · show A.size = _
              rw [hlr.2.1, C.2.2.2.1]
            · show 2 * 0 + _ + 12 ≤ _
              rw [jm_cs_cv]
              omega
          · next as has =>
            split at h
            · next hrk =>
              split at h
              · cases h
              · next z hz =>
                obtain ⟨y1, y2⟩ := y
                dsimp only at has h
                subst has
                have hmj : (jm_rv mi ins).2.1 < 256 := Nat.lt_of_lt_of_le (jm_cl_mj C.2.2.2.2.2.2.2.2.2.1 hcl) (by decide)
                have c1 := jm_cnt n _ _ _ _ _ _ z.1 z.2 hz
                have c2 := jm_cnt n _ _ _ _ _ _ _ _ h
                have hgo := jm_sound n _ _ _ _ _ _ z.1 z.2 hz hmj (jm_rk1 hmj as)
                refine jm_call_s C hdg hW (by rw [hlr.2.1]) hcl (jm_en_le hrk.2) hrk.1 hgo hf hl (by omega) (by omega) hlo fun M' locs' hW' hlo' => ?_
                have := jm_sound n _ _ _ _ _ _ _ _ h hmi hD p e R s m args below meth c M' locs' (cells + (jm_n z.2 - jm_n H)) (slots + (jm_s z.2 - jm_s H)) A C hW' hlr hlo' hf hl (by omega) (by omega)
                rw [show cells + (jm_n z.2 - jm_n H) + (jm_n H' - jm_n z.2) = cells + (jm_n H' - jm_n H) by omega, show slots + (jm_s z.2 - jm_s H) + (jm_s H' - jm_s z.2) = slots + (jm_s H' - jm_s H) by omega] at this
                exact this
            · cases h
end JMM
