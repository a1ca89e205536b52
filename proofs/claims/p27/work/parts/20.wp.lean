/-! what a run comes to, as equations: jm_w .. Q: from here the interpreter comes to an answer and a heap of which Q holds -/
def jm_w (S : Option (Nat × (Nat → Int32))) (D mi pc : Nat) (ls st : List Value) (H : jm_H) (Q : Option Value → jm_H → Prop) : Prop := ∃ (n : Nat) (r : Option Value) (H' : jm_H), jm_ev S n D mi pc ls st H = some (r, H') ∧ Q r H'
/-- a call: a method from its entry -/
def jm_c (S : Option (Nat × (Nat → Int32))) (mi : Nat) (as : List Value) (H : jm_H) (Q : Option Value → jm_H → Prop) : Prop := jm_w S (jm_rk mi as) mi 0 (jm_en mi as) [] H Q
theorem jm_hp_mono {S S' : Option (Nat × (Nat → Int32))} (hS : S = none ∨ S = S') {ins : Instr} {e : Nat × Nat × Nat × Int} {st : List Value} {H : jm_H} {y : List Value × jm_H} (h : jm_hp S ins e st H = some y) : jm_hp S' ins e st H = some y := by
  rcases hS with rfl | rfl
  · cases ins
    case iaload =>
      unfold jm_hp at h ⊢
      dsimp only at h ⊢
      split at h
      · split at h
        · cases h
        · next hr => rw [if_neg hr]; exact h
      · cases h
    case arraylength =>
      unfold jm_hp at h ⊢
      dsimp only at h ⊢
      split at h
      · split at h
        · cases h
        · next hr => rw [if_neg hr]; exact h
      · cases h
    all_goals exact h
  · exact h
theorem jm_hq_of {S : Option (Nat × (Nat → Int32))} {ins : Instr} {e : Nat × Nat × Nat × Int} {st : List Value} {H : jm_H} {y : List Value × jm_H} (h : jm_hp S ins e st H = some y) : jm_hq S ins e st H = some y := by
  unfold jm_hq
  rw [h]
theorem jm_hq_mono {S S' : Option (Nat × (Nat → Int32))} (hS : S = none ∨ S = S') {ins : Instr} {e : Nat × Nat × Nat × Int} {st : List Value} {H : jm_H} {y : List Value × jm_H} (h : jm_hq S ins e st H = some y) : jm_hq S' ins e st H = some y := by
  by_cases hn : jm_hp S ins e st H = none
  · have h0 := h
    unfold jm_hq at h
    rw [hn] at h
    dsimp only at h
    split at h
    · next i n q =>
      have : jm_hp S' (.anewarray i) e (.int n :: q) H = none := hn
      unfold jm_hq
      rw [this]
      exact h
    · cases h
  · cases hp : jm_hp S ins e st H with
    | none => exact absurd hp hn
    | some z =>
      have h1 := jm_hq_of hp
      rw [h] at h1
      cases h1
      exact jm_hq_of (jm_hp_mono hS hp)
set_option maxHeartbeats 2000000 in
theorem jm_mono {S S' : Option (Nat × (Nat → Int32))} (hS : S = none ∨ S = S') : ∀ (n n' D mi pc : Nat) (ls st : List Value) (H : jm_H) (x : Option Value × jm_H), n ≤ n' → jm_ev S n D mi pc ls st H = some x → jm_ev S' n' D mi pc ls st H = some x
  | 0, n', D, mi, pc, ls, st, H, x, _, h => by cases h
  | n + 1, 0, D, mi, pc, ls, st, H, x, hn, h => absurd hn (by omega)
  | n + 1, n' + 1, D, mi, pc, ls, st, H, x, hn, h => by
    have hn' : n ≤ n' := by omega
    rw [jm_ev] at h ⊢
    split at h
    · cases h
    · next ins hat =>
      try rw [hat]
      try dsimp only
      split at h
      · next hk =>
        split at h
        · cases h
        · next st' hst => (try rw [hst]); exact jm_mono hS n n' _ _ _ _ _ _ _ hn' h
      · next hk =>
        split at h
        · cases h
        · next st' hst => (try rw [hst]); exact jm_mono hS n n' _ _ _ _ _ _ _ hn' h
      · next hk =>
        split at h
        · cases h
        · next st' hst => (try rw [hst]); exact jm_mono hS n n' _ _ _ _ _ _ _ hn' h
      · next hk =>
        split at h
        · cases h
        · next st' hst => (try rw [jm_hq_mono hS hst]); exact jm_mono hS n n' _ _ _ _ _ _ _ hn' h
      · next hk =>
        split at h
        · cases h
        · next r hr => (try rw [hr]); exact h
      · split at h
        · cases h
        · next y hcl =>
          try rw [hcl]
          try dsimp only
          split at h
          · next hno => (try rw [hno]); exact jm_mono hS n n' _ _ _ _ _ _ _ hn' h
          · next as has =>
            try rw [has]
            try dsimp only
            split at h
            · next hrk =>
              try rw [if_pos hrk]
              split at h
              · cases h
              · next z hz =>
                rw [jm_mono hS n n' _ _ _ _ _ _ _ hn' hz]
                exact jm_mono hS n n' _ _ _ _ _ _ _ hn' h
            · cases h
section JWP
variable {S : Option (Nat × (Nat → Int32))} {D mi pc : Nat} {ls st : List Value} {H : jm_H} {Q : Option Value → jm_H → Prop}
theorem jm_w_mono {Q' : Option Value → jm_H → Prop} (h : jm_w S D mi pc ls st H Q) (hq : ∀ r H', Q r H' → Q' r H') : jm_w S D mi pc ls st H Q' := by
  obtain ⟨n, r, H', h1, h2⟩ := h
  exact ⟨n, r, H', h1, hq r H' h2⟩
theorem jm_w_none (h : jm_w none D mi pc ls st H Q) : jm_w S D mi pc ls st H Q := by
  obtain ⟨n, r, H', h1, h2⟩ := h
  exact ⟨n, r, H', jm_mono (Or.inl rfl) n n _ _ _ _ _ _ _ (Nat.le_refl _) h1, h2⟩
theorem js_step {pc' : Nat} {ls' st' : List Value} {H' : jm_H} (h : ∀ n, jm_ev S (n + 1) D mi pc ls st H = jm_ev S n D mi pc' ls' st' H') : jm_w S D mi pc ls st H Q = jm_w S D mi pc' ls' st' H' Q := by
  refine propext ⟨fun ⟨n, r, G, h1, h2⟩ => ?_, fun ⟨n, r, G, h1, h2⟩ => ⟨n + 1, r, G, by rw [h]; exact h1, h2⟩⟩
  match n, h1 with
  | 0, h1 => cases h1
  | n + 1, h1 => exact ⟨n, r, G, by rw [← h]; exact h1, h2⟩
theorem js0 {ins : Instr} {pc' : Nat} {st' : List Value} (hat : jm_at mi pc = some ins) (hk : jm_kd ins = 0) (hs : jm_alu ins st = some st') (hn : pc + jm_len ins = pc') : jm_w S D mi pc ls st H Q = jm_w S D mi pc' ls st' H Q :=
  js_step fun n => by simp only [jm_ev, hat, hk, hs, hn]
theorem js1 {ins : Instr} {pc' : Nat} {ls' st' : List Value} (hat : jm_at mi pc = some ins) (hk : jm_kd ins = 1) (hs : jm_loc ins ls st = some (ls', st')) (hn : pc + jm_len ins = pc') : jm_w S D mi pc ls st H Q = jm_w S D mi pc' ls' st' H Q :=
  js_step fun n => by simp only [jm_ev, hat, hk, hs, hn]
theorem js2 {ins : Instr} {pc' : Nat} {st' : List Value} (hat : jm_at mi pc = some ins) (hk : jm_kd ins = 2) (hs : jm_br ins pc st = some (pc', st')) : jm_w S D mi pc ls st H Q = jm_w S D mi pc' ls st' H Q :=
  js_step fun n => by simp only [jm_ev, hat, hk, hs]
theorem jsif {ins : Instr} {t f : Nat} {st' : List Value} {P : Prop} [Decidable P] (hat : jm_at mi pc = some ins) (hk : jm_kd ins = 2) (hs : jm_br ins pc st = some (cond (decide P) t f, st')) : jm_w S D mi pc ls st H Q = if P then jm_w S D mi t ls st' H Q else jm_w S D mi f ls st' H Q := by
  rw [js2 hat hk hs]
  by_cases h : P
  · rw [if_pos h, decide_eq_true h]; rfl
  · rw [if_neg h, decide_eq_false h]; rfl
theorem js3 {ins : Instr} {e : Nat × Nat × Nat × Int} {pc' : Nat} {st' : List Value} {H' : jm_H} (hat : jm_at mi pc = some ins) (hk : jm_kd ins = 3) (hrv : jm_rv mi ins = e) (hs : jm_hp S ins e st H = some (st', H')) (hn : pc + jm_len ins = pc') : jm_w S D mi pc ls st H Q = jm_w S D mi pc' ls st' H' Q :=
  js_step fun n => by simp only [jm_ev, hat, hk, hrv, jm_hq_of hs, hn]
theorem js4 {ins : Instr} {r : Option Value} {t : Option FieldType} (hat : jm_at mi pc = some ins) (hk : jm_kd ins = 4) (ht : jm_ret mi = t) (hs : jm_rt t ins st = some r) : jm_w S D mi pc ls st H Q = Q r H := by
  refine propext ⟨fun ⟨n, r', G, h1, h2⟩ => ?_, fun h => ⟨1, r, H, by simp only [jm_ev, hat, hk, ht, hs], h⟩⟩
  match n, h1 with
  | 0, h1 => cases h1
  | n + 1, h1 =>
    simp only [jm_ev, hat, hk, ht, hs] at h1
    cases h1
    exact h2
theorem jsret_i {v : Int32} (hat : jm_at mi pc = some .ireturn) (ht : jm_ret mi = some .int) : jm_w S D mi pc ls [.int v] H Q = Q (some (.int v)) H := js4 hat rfl ht (by show (if narrow .int (.int v) = .int v then _ else _) = _; exact if_pos rfl)
theorem jsret_z {v : Int32} (hat : jm_at mi pc = some .ireturn) (ht : jm_ret mi = some .boolean) (hv : v = 0 ∨ v = 1) : jm_w S D mi pc ls [.int v] H Q = Q (some (.int v)) H := js4 hat rfl ht (by show (if narrow .boolean (.int v) = .int v then _ else _) = _; rw [if_pos (jm_b01 hv).1])
theorem jsret_l {v : Int64} (hat : jm_at mi pc = some .lreturn) (ht : jm_ret mi = some .long) : jm_w S D mi pc ls [.long v] H Q = Q (some (.long v)) H := js4 hat rfl ht rfl
theorem jsret_v (hat : jm_at mi pc = some .return_) (ht : jm_ret mi = none) : jm_w S D mi pc ls [] H Q = Q none H := js4 hat rfl ht rfl
theorem jscall {ins : Instr} {e : Nat × Nat × Nat × Int} {as q : List Value} {pc' mj : Nat} (hat : jm_at mi pc = some ins) (hk : jm_kd ins = 5) (hrv : jm_rv mi ins = e) (hcl : jm_cl ins e st H = some (some as, q)) (hmj : e.2.1 = mj) (hrk : jm_rk mj as < D) (hen : (jm_en mj as).length = jm_mx mj) (hn : pc + 3 = pc') :
    jm_w S D mi pc ls st H Q = jm_c S mj as H (fun r H' => jm_w S D mi pc' ls (r.toList ++ q) H' Q) := by
  subst hmj
  subst hn
  refine propext ⟨fun ⟨n, r, G, h1, h2⟩ => ?_, fun ⟨n, r, G, h1, n2, r2, G2, h2, h3⟩ => ?_⟩
  · match n, h1 with
    | 0, h1 => cases h1
    | n + 1, h1 =>
      simp only [jm_ev, hat, hk, hrv, hcl, if_pos (And.intro hrk hen)] at h1
      split at h1
      · cases h1
      · next y hy => exact ⟨n, y.1, y.2, hy, n, r, G, h1, h2⟩
  · refine ⟨max n n2 + 1, r2, G2, ?_, h3⟩
    simp only [jm_ev, hat, hk, hrv, hcl, if_pos (And.intro hrk hen)]
    rw [jm_mono (S := S) (Or.inr rfl) n (max n n2) _ _ _ _ _ _ _ (Nat.le_max_left _ _) h1]
    exact jm_mono (Or.inr rfl) n2 (max n n2) _ _ _ _ _ _ _ (Nat.le_max_right _ _) h2
theorem jscut {k : Nat} {as q : List Value} (h : jm_cut st k = some (as, q)) {e : Nat × Nat × Nat × Int} {i : Nat} (h1 : e.1 = 1) (hk : jm_np e.2.1 = k) (h8 : jm_cs q ≤ 8) : jm_cl (.invokestatic i) e st H = some (some as, q) := by
  unfold jm_cl
  try dsimp only
  rw [if_pos h1, hk, h]
  try dsimp only
  rw [if_pos h8]
theorem jscutV {k r ci : Nat} {as q : List Value} (h : jm_cut st k = some (.ref r :: as, q)) {e : Nat × Nat × Nat × Int} {i : Nat} (h1 : e.1 = 2) (hk : jm_np e.2.1 + 1 = k) (h8 : jm_cs q ≤ 8) (hci : jm_ci e.2.1 = ci) (ht : jm_tg H r = ci + 1) : jm_cl (.invokevirtual i) e st H = some (some (.ref r :: as), q) := by
  unfold jm_cl
  try dsimp only
  rw [if_pos h1, hk, h]
  try dsimp only
  rw [if_pos ⟨h8, by rw [hci]; exact ht⟩]
/-! reads and writes of fields and arrays -/
theorem jsgI {i a b r pc' : Nat} {q : List Value} (hat : jm_at mi pc = some (.getfield i)) (hrv : jm_rv mi (.getfield i) = (0, a, b, 0)) (hf : jm_ft a b = 0 ∨ jm_ft a b = 3) (ht : jm_tg H r = a + 1) (hn : pc + 3 = pc') : jm_w S D mi pc ls (.ref r :: q) H Q = jm_w S D mi pc' ls (.int (jm_I H r b) :: q) H Q :=
  js3 hat rfl hrv (by show (if (0 : Nat) = 0 ∧ jm_tg H r = a + 1 then _ else _) = _; rw [if_pos ⟨rfl, ht⟩]; unfold jm_gf; rcases hf with h | h <;> simp only [h]) hn
theorem jsgL {i a b r pc' : Nat} {q : List Value} (hat : jm_at mi pc = some (.getfield i)) (hrv : jm_rv mi (.getfield i) = (0, a, b, 0)) (hf : jm_ft a b = 1) (ht : jm_tg H r = a + 1) (hn : pc + 3 = pc') : jm_w S D mi pc ls (.ref r :: q) H Q = jm_w S D mi pc' ls (.long (jm_L H r b) :: q) H Q :=
  js3 hat rfl hrv (by show (if (0 : Nat) = 0 ∧ jm_tg H r = a + 1 then _ else _) = _; rw [if_pos ⟨rfl, ht⟩]; unfold jm_gf; simp only [hf]) hn
theorem jsgR {i a b r pc' : Nat} {q : List Value} (hat : jm_at mi pc = some (.getfield i)) (hrv : jm_rv mi (.getfield i) = (0, a, b, 0)) (hf : jm_ft a b = 2) (ht : jm_tg H r = a + 1) (h0 : ¬ jm_R H r b = 0) (hn : pc + 3 = pc') : jm_w S D mi pc ls (.ref r :: q) H Q = jm_w S D mi pc' ls (.ref (jm_R H r b) :: q) H Q :=
  js3 hat rfl hrv (by show (if (0 : Nat) = 0 ∧ jm_tg H r = a + 1 then _ else _) = _; rw [if_pos ⟨rfl, ht⟩]; unfold jm_gf; simp only [hf, if_neg h0]) hn
theorem jspI {i a b r pc' : Nat} {x : Int32} {q : List Value} (hat : jm_at mi pc = some (.putfield i)) (hrv : jm_rv mi (.putfield i) = (0, a, b, 0)) (hf : jm_ft a b = 0) (ht : jm_tg H r = a + 1) (hn : pc + 3 = pc') : jm_w S D mi pc ls (.int x :: .ref r :: q) H Q = jm_w S D mi pc' ls q (jm_pI H r b x) Q :=
  js3 hat rfl hrv (by show (if (0 : Nat) = 0 then jm_pf a b (.int x :: .ref r :: q) H else none) = _; rw [if_pos rfl]; unfold jm_pf; simp only [hf, if_pos ht]) hn
theorem jspZ {i a b r pc' : Nat} {x : Int32} {q : List Value} (hat : jm_at mi pc = some (.putfield i)) (hrv : jm_rv mi (.putfield i) = (0, a, b, 0)) (hf : jm_ft a b = 3) (ht : jm_tg H r = a + 1) (hx : x = 0 ∨ x = 1) (hn : pc + 3 = pc') : jm_w S D mi pc ls (.int x :: .ref r :: q) H Q = jm_w S D mi pc' ls q (jm_pI H r b x) Q :=
  js3 hat rfl hrv (by show (if (0 : Nat) = 0 then jm_pf a b (.int x :: .ref r :: q) H else none) = _; rw [if_pos rfl]; unfold jm_pf; simp only [hf, if_pos (And.intro ht hx)]) hn
theorem jspL {i a b r pc' : Nat} {x : Int64} {q : List Value} (hat : jm_at mi pc = some (.putfield i)) (hrv : jm_rv mi (.putfield i) = (0, a, b, 0)) (hf : jm_ft a b = 1) (ht : jm_tg H r = a + 1) (hn : pc + 3 = pc') : jm_w S D mi pc ls (.long x :: .ref r :: q) H Q = jm_w S D mi pc' ls q (jm_pL H r b x) Q :=
  js3 hat rfl hrv (by show (if (0 : Nat) = 0 then jm_pf a b (.long x :: .ref r :: q) H else none) = _; rw [if_pos rfl]; unfold jm_pf; simp only [hf, if_pos ht]) hn
theorem jspR {i a b r x pc' : Nat} {q : List Value} (hat : jm_at mi pc = some (.putfield i)) (hrv : jm_rv mi (.putfield i) = (0, a, b, 0)) (hf : jm_ft a b = 2) (ht : jm_tg H r = a + 1) (hx : ¬ x = 0) (hn : pc + 3 = pc') : jm_w S D mi pc ls (.ref x :: .ref r :: q) H Q = jm_w S D mi pc' ls q (jm_pR H r b x) Q :=
  js3 hat rfl hrv (by show (if (0 : Nat) = 0 then jm_pf a b (.ref x :: .ref r :: q) H else none) = _; rw [if_pos rfl]; unfold jm_pf; simp only [hf, if_pos (And.intro ht hx)]) hn
theorem jsial {r pc' : Nat} {i : Int32} {q : List Value} (hat : jm_at mi pc = some .iaload) (h1 : ¬ r = 1) (ht : jm_tg H r = 100) (hi : ¬ (i < 0 ∨ jm_ln H r ≤ i.toNatClampNeg)) (hn : pc + 1 = pc') : jm_w S D mi pc ls (.int i :: .ref r :: q) H Q = jm_w S D mi pc' ls (.int (jm_I H r i.toNatClampNeg) :: q) H Q :=
  js3 hat rfl rfl (by unfold jm_hp; (try dsimp only); rw [if_neg h1, if_pos ⟨ht, hi⟩]) hn
theorem jslal {r pc' : Nat} {i : Int32} {q : List Value} (hat : jm_at mi pc = some .laload) (ht : jm_tg H r = 101) (hi : ¬ (i < 0 ∨ jm_ln H r ≤ i.toNatClampNeg)) (hn : pc + 1 = pc') : jm_w S D mi pc ls (.int i :: .ref r :: q) H Q = jm_w S D mi pc' ls (.long (jm_L H r i.toNatClampNeg) :: q) H Q :=
  js3 hat rfl rfl (by unfold jm_hp; (try dsimp only); rw [if_pos ⟨ht, hi⟩]) hn
theorem jsbal {r pc' : Nat} {i : Int32} {q : List Value} (hat : jm_at mi pc = some .baload) (ht : jm_tg H r = 102 ∨ jm_tg H r = 103) (hi : ¬ (i < 0 ∨ jm_ln H r ≤ i.toNatClampNeg)) (hn : pc + 1 = pc') : jm_w S D mi pc ls (.int i :: .ref r :: q) H Q = jm_w S D mi pc' ls (.int (jm_I H r i.toNatClampNeg) :: q) H Q :=
  js3 hat rfl rfl (by unfold jm_hp; (try dsimp only); rw [if_pos ⟨ht, hi⟩]) hn
theorem jsaal {r pc' : Nat} {i : Int32} {q : List Value} (hat : jm_at mi pc = some .aaload) (ht : jm_tg H r = 104 ∨ jm_tg H r = 105) (hi : ¬ (i < 0 ∨ jm_ln H r ≤ i.toNatClampNeg)) (h0 : ¬ jm_R H r i.toNatClampNeg = 0) (hn : pc + 1 = pc') : jm_w S D mi pc ls (.int i :: .ref r :: q) H Q = jm_w S D mi pc' ls (.ref (jm_R H r i.toNatClampNeg) :: q) H Q :=
  js3 hat rfl rfl (by unfold jm_hp; (try dsimp only); rw [if_pos ⟨ht, hi, h0⟩]) hn
theorem jsias {r pc' : Nat} {i x : Int32} {q : List Value} (hat : jm_at mi pc = some .iastore) (ht : jm_tg H r = 100) (hi : ¬ (i < 0 ∨ jm_ln H r ≤ i.toNatClampNeg)) (hn : pc + 1 = pc') : jm_w S D mi pc ls (.int x :: .int i :: .ref r :: q) H Q = jm_w S D mi pc' ls q (jm_pI H r i.toNatClampNeg x) Q :=
  js3 hat rfl rfl (by unfold jm_hp; (try dsimp only); rw [if_pos ⟨ht, hi⟩]) hn
theorem jslas {r pc' : Nat} {i : Int32} {x : Int64} {q : List Value} (hat : jm_at mi pc = some .lastore) (ht : jm_tg H r = 101) (hi : ¬ (i < 0 ∨ jm_ln H r ≤ i.toNatClampNeg)) (hn : pc + 1 = pc') : jm_w S D mi pc ls (.long x :: .int i :: .ref r :: q) H Q = jm_w S D mi pc' ls q (jm_pL H r i.toNatClampNeg x) Q :=
  js3 hat rfl rfl (by unfold jm_hp; (try dsimp only); rw [if_pos ⟨ht, hi⟩]) hn
theorem jsbas {r pc' : Nat} {i x : Int32} {q : List Value} (hat : jm_at mi pc = some .bastore) (ht : jm_tg H r = 102) (hi : ¬ (i < 0 ∨ jm_ln H r ≤ i.toNatClampNeg)) (hn : pc + 1 = pc') : jm_w S D mi pc ls (.int x :: .int i :: .ref r :: q) H Q = jm_w S D mi pc' ls q (jm_pI H r i.toNatClampNeg x.toInt8.toInt32) Q :=
  js3 hat rfl rfl (by unfold jm_hp; (try dsimp only); rw [if_pos hi, if_pos ht]) hn
theorem jszas {r pc' : Nat} {i x : Int32} {q : List Value} (hat : jm_at mi pc = some .bastore) (ht : jm_tg H r = 103) (hi : ¬ (i < 0 ∨ jm_ln H r ≤ i.toNatClampNeg)) (hx : x = 0 ∨ x = 1) (hn : pc + 1 = pc') : jm_w S D mi pc ls (.int x :: .int i :: .ref r :: q) H Q = jm_w S D mi pc' ls q (jm_pI H r i.toNatClampNeg x) Q :=
  js3 hat rfl rfl (by unfold jm_hp; (try dsimp only); rw [if_pos hi, if_neg (by rw [ht]; decide), if_pos ⟨ht, hx⟩]) hn
theorem jsaln {r pc' : Nat} {q : List Value} (hat : jm_at mi pc = some .arraylength) (h1 : ¬ r = 1) (ht : 100 ≤ jm_tg H r) (hn : pc + 1 = pc') : jm_w S D mi pc ls (.ref r :: q) H Q = jm_w S D mi pc' ls (.int (Int32.ofNat (jm_ln H r)) :: q) H Q :=
  js3 hat rfl rfl (by unfold jm_hp; (try dsimp only); rw [if_neg h1, if_pos ht]) hn
theorem jssal {L : Nat} {xs : Nat → Int32} {pc' : Nat} {i : Int32} {q : List Value} (hat : jm_at mi pc = some .iaload) (hi : ¬ (i < 0 ∨ L ≤ i.toNatClampNeg)) (hn : pc + 1 = pc') : jm_w (some (L, xs)) D mi pc ls (.int i :: .ref 1 :: q) H Q = jm_w (some (L, xs)) D mi pc' ls (.int (xs i.toNatClampNeg) :: q) H Q :=
  js3 hat rfl rfl (by unfold jm_hp; (try dsimp only); rw [if_pos rfl, if_pos hi]) hn
theorem jssln {L : Nat} {xs : Nat → Int32} {pc' : Nat} {q : List Value} (hat : jm_at mi pc = some .arraylength) (hn : pc + 1 = pc') : jm_w (some (L, xs)) D mi pc ls (.ref 1 :: q) H Q = jm_w (some (L, xs)) D mi pc' ls (.int (Int32.ofNat L) :: q) H Q :=
  js3 hat rfl rfl (by unfold jm_hp; (try dsimp only); rw [if_pos rfl]) hn
end JWP
/-! the maps, read behind a write -/
theorem jm_I_pI (H : jm_H) (a k : Nat) (v : Int32) (b j : Nat) : jm_I (jm_pI H a k v) b j = if b = a ∧ j = k then v else jm_I H b j := by
  by_cases h : b = a
  · subst h
    show jm_u2 _ _ _ _ _ _ = _
    rw [jm_u2_at]
    by_cases h2 : j = k
    · rw [if_pos h2, if_pos ⟨rfl, h2⟩]
    · rw [if_neg h2, if_neg (fun q => h2 q.2)]; rfl
  · rw [if_neg (fun q => h q.1)]
    show jm_u2 _ _ _ _ _ _ = _
    rw [jm_u2_ne _ _ h]; rfl
theorem jm_L_pL (H : jm_H) (a k : Nat) (v : Int64) (b j : Nat) : jm_L (jm_pL H a k v) b j = if b = a ∧ j = k then v else jm_L H b j := by
  by_cases h : b = a
  · subst h
    show jm_u2 _ _ _ _ _ _ = _
    rw [jm_u2_at]
    by_cases h2 : j = k
    · rw [if_pos h2, if_pos ⟨rfl, h2⟩]
    · rw [if_neg h2, if_neg (fun q => h2 q.2)]; rfl
  · rw [if_neg (fun q => h q.1)]
    show jm_u2 _ _ _ _ _ _ = _
    rw [jm_u2_ne _ _ h]; rfl
theorem jm_R_pR (H : jm_H) (a k : Nat) (v : Nat) (b j : Nat) : jm_R (jm_pR H a k v) b j = if b = a ∧ j = k then v else jm_R H b j := by
  by_cases h : b = a
  · subst h
    show jm_u2 _ _ _ _ _ _ = _
    rw [jm_u2_at]
    by_cases h2 : j = k
    · rw [if_pos h2, if_pos ⟨rfl, h2⟩]
    · rw [if_neg h2, if_neg (fun q => h2 q.2)]; rfl
  · rw [if_neg (fun q => h q.1)]
    show jm_u2 _ _ _ _ _ _ = _
    rw [jm_u2_ne _ _ h]; rfl
theorem jm_I_pL (H : jm_H) (a k : Nat) (v : Int64) : jm_I (jm_pL H a k v) = jm_I H := rfl
theorem jm_I_pR (H : jm_H) (a k : Nat) (v : Nat) : jm_I (jm_pR H a k v) = jm_I H := rfl
theorem jm_L_pI (H : jm_H) (a k : Nat) (v : Int32) : jm_L (jm_pI H a k v) = jm_L H := rfl
theorem jm_L_pR (H : jm_H) (a k : Nat) (v : Nat) : jm_L (jm_pR H a k v) = jm_L H := rfl
theorem jm_R_pI (H : jm_H) (a k : Nat) (v : Int32) : jm_R (jm_pI H a k v) = jm_R H := rfl
theorem jm_R_pL (H : jm_H) (a k : Nat) (v : Int64) : jm_R (jm_pL H a k v) = jm_R H := rfl
theorem jm_tg_pI (H : jm_H) (a k : Nat) (v : Int32) : jm_tg (jm_pI H a k v) = jm_tg H := rfl
theorem jm_tg_pL (H : jm_H) (a k : Nat) (v : Int64) : jm_tg (jm_pL H a k v) = jm_tg H := rfl
theorem jm_tg_pR (H : jm_H) (a k : Nat) (v : Nat) : jm_tg (jm_pR H a k v) = jm_tg H := rfl
theorem jm_ln_pI (H : jm_H) (a k : Nat) (v : Int32) : jm_ln (jm_pI H a k v) = jm_ln H := rfl
theorem jm_ln_pL (H : jm_H) (a k : Nat) (v : Int64) : jm_ln (jm_pL H a k v) = jm_ln H := rfl
theorem jm_ln_pR (H : jm_H) (a k : Nat) (v : Nat) : jm_ln (jm_pR H a k v) = jm_ln H := rfl
theorem jm_n_pI (H : jm_H) (a k : Nat) (v : Int32) : jm_n (jm_pI H a k v) = jm_n H := rfl
theorem jm_n_pL (H : jm_H) (a k : Nat) (v : Int64) : jm_n (jm_pL H a k v) = jm_n H := rfl
theorem jm_n_pR (H : jm_H) (a k : Nat) (v : Nat) : jm_n (jm_pR H a k v) = jm_n H := rfl
theorem jm_s_pI (H : jm_H) (a k : Nat) (v : Int32) : jm_s (jm_pI H a k v) = jm_s H := rfl
theorem jm_s_pL (H : jm_H) (a k : Nat) (v : Int64) : jm_s (jm_pL H a k v) = jm_s H := rfl
theorem jm_s_pR (H : jm_H) (a k : Nat) (v : Nat) : jm_s (jm_pR H a k v) = jm_s H := rfl
