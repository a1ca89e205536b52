def jm_gw (w : Jvm.Cond) : Bool := match w with
  | .methodLinkNest _ _ _ _ => true
  | .arrayOver (.object _) => true
  | _ => false
/-- the words that last while the program runs -/
def jm_tb : List Jvm.Cond := lw_tbl.filter (fun w => goodWord w || jm_gw w)
theorem jm_tb_in {w : Jvm.Cond} (h : w ∈ lw_tbl) (hg : (goodWord w || jm_gw w) = true) : w ∈ jm_tb := List.mem_filter.mpr ⟨h, hg⟩
theorem jm_tb_of {w : Jvm.Cond} (h : w ∈ jm_tb) : w ∈ lw_tbl ∧ (goodWord w || jm_gw w) = true := List.mem_filter.mp h
/-! The abstract heap against the machine's: object r lies at jm_ad r; what stands below 'base' is as it was. -/
def jm_ad (base b r : Nat) : Nat := if r = 1 then b else base + (r - 2)
def jm_cv (base b : Nat) : Value → Value
  | .ref r => .ref (jm_ad base b r)
  | v => v
theorem jm_cv_cat (base b : Nat) (v : Value) : (jm_cv base b v).category = v.category := by cases v <;> rfl
theorem jm_v2_cat {v : Value} (h : ¬ jm_v2 v = true) : v.category = 1 := by cases v <;> first | rfl | exact absurd rfl h
theorem jm_v2_cat2 {v : Value} (h : jm_v2 v = true) : v.category = 2 := by cases v <;> first | rfl | (simp [jm_v2] at h)
theorem jm_cat_v2 {v : Value} (h : v.category = 2) : jm_v2 v = true := by cases v <;> first | rfl | (simp [Value.category] at h)
theorem jm_cs_cv (base b : Nat) (st : List Value) : ((st.map (jm_cv base b)).map fun v => v.category).sum = jm_cs st := by
  unfold jm_cs
  rw [List.map_map]
  congr 1
  apply List.map_congr_left
  intro v _
  exact jm_cv_cat base b v
theorem jm_lkp {α : Type} {x : Nat} : ∀ {l : List (Nat × α)} {y : α}, l.lookup x = some y → (x, y) ∈ l
  | [], y, h => by cases h
  | (k, v) :: l, y, h => by
    rw [List.lookup_cons] at h
    split at h
    next e =>
      cases h
      have : x = k := by simpa using e
      subst this
      exact List.mem_cons_self
    next e => exact List.mem_cons_of_mem _ (jm_lkp h)
/-! locals -/
def jm_ll (base b : Nat) (ls : List Value) : List (Nat × Value) := (List.range ls.length).filterMap (fun k => match ls[k]? with | some (Value.null) => none | some v => some (k, jm_cv base b v) | none => none)
theorem jm_ll_in {base b : Nat} {ls : List Value} {k : Nat} {v : Value} (h : ls[k]? = some v) (hn : v ≠ .null) : (k, jm_cv base b v) ∈ jm_ll base b ls := by
  refine List.mem_filterMap.mpr ⟨k, List.mem_range.mpr (List.getElem?_eq_some_iff.mp h).1, ?_⟩
  rw [h]
  cases v
  case null => exact absurd rfl hn
  all_goals rfl
theorem jm_ll_of {base b : Nat} {ls : List Value} {q : Nat × Value} (h : q ∈ jm_ll base b ls) : ∃ v, ls[q.1]? = some v ∧ v ≠ .null ∧ q.2 = jm_cv base b v := by
  obtain ⟨k, -, hk⟩ := List.mem_filterMap.mp h
  split at hk
  next => cases hk
  next v h1 h2 =>
    cases hk
    exact ⟨_, h2, fun e => h1 (by rw [e]), rfl⟩
  next => cases hk
def jm_lr (base b : Nat) (ls : List Value) (A : Array Slot) (n : Nat) : Prop := ls.length = n ∧ lv_has A n (jm_ll base b ls)
theorem jm_lr_get {base b : Nat} {ls : List Value} {A : Array Slot} {n k : Nat} {v : Value} (h : jm_lr base b ls A n) (hk : ls[k]? = some v) (hn : v ≠ .null) : A[k]? = some (.val (jm_cv base b v)) := h.2.2.2 (k, jm_cv base b v) (jm_ll_in hk hn)
theorem jm_kl_len (ls : List Value) (i : Nat) : (jm_kl ls i).length = ls.length := by
  unfold jm_kl
  split
  · rfl
  · split <;> simp
theorem jm_kl_get {ls : List Value} {i k : Nat} {v : Value} (h : (jm_kl ls i)[k]? = some v) (hn : v ≠ .null) : ls[k]? = some v ∧ ¬ (k + 1 = i ∧ v.category = 2) := by
  unfold jm_kl at h
  split at h
  · exact ⟨h, fun q => by omega⟩
  · next j =>
    split at h
    next hj =>
      by_cases e : j = k
      · subst e
        have hl : j < ls.length := by
          have := (List.getElem?_eq_some_iff.mp h).1
          simpa using this
        rw [List.getElem?_set_self hl] at h
        cases h
        exact absurd rfl hn
      · rw [List.getElem?_set_ne e] at h
        exact ⟨h, fun q => e (by omega)⟩
    next hj =>
      refine ⟨h, fun q => hj ?_⟩
      have : j = k := by omega
      subst this
      rw [h]
      exact jm_cat_v2 q.2
theorem jm_lr_set {base b : Nat} {ls : List Value} {A' : Array Slot} {n i : Nat} {v : Value} (hl : ls.length = n) (hi : i < n) (h : lv_has A' n ((i, jm_cv base b v) :: (jm_ll base b ls).filter (fun q => !(q.1 == i) && !(q.1 + 1 == i && q.2.category == 2)))) : jm_lr base b ((jm_kl ls i).set i v) A' n := by
  refine ⟨by rw [List.length_set, jm_kl_len, hl], h.1, h.2.1, fun q hq => ?_⟩
  obtain ⟨w, h1, h2, h3⟩ := jm_ll_of hq
  by_cases e : i = q.1
  · rw [← e, List.getElem?_set_self (by rw [jm_kl_len, hl]; exact hi)] at h1
    cases h1
    have := h.2.2 (i, jm_cv base b v) List.mem_cons_self
    rw [← e, h3]
    exact this
  · rw [List.getElem?_set_ne e] at h1
    obtain ⟨g1, g2⟩ := jm_kl_get h1 h2
    refine h.2.2 q (List.mem_cons_of_mem _ (List.mem_filter.mpr ⟨?_, ?_⟩))
    · have := jm_ll_in (base := base) (b := b) g1 h2
      rw [← h3] at this
      exact this
    · have hc : q.2.category = w.category := by rw [h3, jm_cv_cat]
      simp only [Bool.and_eq_true, Bool.not_eq_true', beq_eq_false_iff_ne, Bool.and_eq_false_imp, beq_iff_eq, ne_eq]
      exact ⟨fun z => e z.symm, fun z1 z2 => g2 ⟨z1, by rw [← hc]; exact z2⟩⟩
theorem jm_lr_set2 {base b : Nat} {ls : List Value} {A' : Array Slot} {n i : Nat} {v : Value} (hl : ls.length = n) (hi : i + 1 < n) (h : lv_has A' n ((i, jm_cv base b v) :: (jm_ll base b ls).filter (fun q => !(q.1 == i) && (!(q.1 == i + 1) && !(q.1 + 1 == i && q.2.category == 2))))) : jm_lr base b (((jm_kl ls i).set i v).set (i + 1) .null) A' n := by
  refine ⟨by rw [List.length_set, List.length_set, jm_kl_len, hl], h.1, h.2.1, fun q hq => ?_⟩
  obtain ⟨w, h1, h2, h3⟩ := jm_ll_of hq
  by_cases e2 : i + 1 = q.1
  · rw [← e2, List.getElem?_set_self (by rw [List.length_set, jm_kl_len, hl]; exact hi)] at h1
    cases h1
    exact absurd rfl h2
  rw [List.getElem?_set_ne e2] at h1
  by_cases e : i = q.1
  · rw [← e, List.getElem?_set_self (by rw [jm_kl_len, hl]; omega)] at h1
    cases h1
    have := h.2.2 (i, jm_cv base b v) List.mem_cons_self
    rw [← e, h3]
    exact this
  · rw [List.getElem?_set_ne e] at h1
    obtain ⟨g1, g2⟩ := jm_kl_get h1 h2
    refine h.2.2 q (List.mem_cons_of_mem _ (List.mem_filter.mpr ⟨?_, ?_⟩))
    · have := jm_ll_in (base := base) (b := b) g1 h2
      rw [← h3] at this
      exact this
    · have hc : q.2.category = w.category := by rw [h3, jm_cv_cat]
      simp only [Bool.and_eq_true, Bool.not_eq_true', beq_eq_false_iff_ne, Bool.and_eq_false_imp, beq_iff_eq, ne_eq]
      exact ⟨fun z => e z.symm, fun z => e2 z.symm, fun z1 z2 => g2 ⟨z1, by rw [← hc]; exact z2⟩⟩
theorem jm_ii {ls : List Value} {i : Nat} {x : Int32} (h : ls[i]? = some (.int x)) (y : Int32) : jm_kl ls i = ls ∨ True := Or.inr trivial
/-- the same without looking ahead of i: an int stood there, so no long's first half stands ahead of it -/
theorem jm_lr_inc {base b : Nat} {ls : List Value} {A A' : Array Slot} {n i : Nat} {x v : Int32} (h0 : jm_lr base b ls A n) (hx : ls[i]? = some (.int x)) (h : lv_has A' n ((i, Value.int v) :: (jm_ll base b ls).filter (fun q => !(q.1 == i) && !(q.1 + 1 == i && q.2.category == 2)))) : jm_lr base b (ls.set i (.int v)) A' n := by
  have hi : i < n := by rw [← h0.1]; exact (List.getElem?_eq_some_iff.mp hx).1
  refine ⟨by rw [List.length_set]; exact h0.1, h.1, h.2.1, fun q hq => ?_⟩
  obtain ⟨w, h1, h2, h3⟩ := jm_ll_of hq
  by_cases e : i = q.1
  · rw [← e, List.getElem?_set_self (by rw [h0.1]; exact hi)] at h1
    cases h1
    have := h.2.2 (i, Value.int v) List.mem_cons_self
    rw [← e, h3]
    exact this
  · rw [List.getElem?_set_ne e] at h1
    have hg := jm_lr_get h0 h1 h2
    refine h.2.2 q (List.mem_cons_of_mem _ (List.mem_filter.mpr ⟨?_, ?_⟩))
    · have := jm_ll_in (base := base) (b := b) h1 h2
      rw [← h3] at this
      exact this
    · have hc : q.2.category = w.category := by rw [h3, jm_cv_cat]
      simp only [Bool.and_eq_true, Bool.not_eq_true', beq_eq_false_iff_ne, Bool.and_eq_false_imp, beq_iff_eq, ne_eq]
      refine ⟨fun z => e z.symm, fun z1 z2 => ?_⟩
      have hs := h0.2.2.1.1 q.1 _ hg (by rw [jm_cv_cat, ← hc]; exact z2)
      rw [z1] at hs
      have := jm_lr_get h0 hx (by simp)
      rw [hs] at this
      cases this
theorem jm_args_in : ∀ (vs : List Value) (i k : Nat) (v : Value), (vs.flatMap (fun v => if jm_v2 v then [v, .null] else [v]))[k]? = some v → v ≠ .null → (i + k, v) ∈ lv_args i vs
  | [], i, k, v, h, _ => by simp at h
  | w :: vs, i, k, v, h, hn => by
    rw [List.flatMap_cons] at h
    by_cases hw : jm_v2 w = true
    · rw [if_pos hw] at h
      simp only [lv_args, if_pos (jm_v2_cat2 hw)]
      match k, h with
      | 0, h => simp at h; subst h; exact List.mem_cons_self
      | 1, h => simp at h; exact absurd h.symm hn
      | k + 2, h =>
        have h' : (vs.flatMap (fun v => if jm_v2 v then [v, .null] else [v]))[k]? = some v := by simpa using h
        have := jm_args_in vs (i + 2) k v h' hn
        exact List.mem_cons_of_mem _ (by rw [show i + (k + 2) = i + 2 + k by omega]; exact this)
    · rw [if_neg hw] at h
      simp only [lv_args, if_neg (show ¬ w.category = 2 by rw [jm_v2_cat hw]; decide)]
      match k, h with
      | 0, h => simp at h; subst h; exact List.mem_cons_self
      | k + 1, h =>
        have h' : (vs.flatMap (fun v => if jm_v2 v then [v, .null] else [v]))[k]? = some v := by simpa using h
        have := jm_args_in vs (i + 1) k v h' hn
        exact List.mem_cons_of_mem _ (by rw [show i + (k + 1) = i + 1 + k by omega]; exact this)
theorem jm_args_cv (base b : Nat) : ∀ (vs : List Value) (i : Nat), lv_args i (vs.map (jm_cv base b)) = (lv_args i vs).map (fun q => (q.1, jm_cv base b q.2))
  | [], _ => rfl
  | w :: vs, i => by
    simp only [List.map_cons, lv_args, jm_cv_cat]
    rw [jm_args_cv base b vs]
theorem jm_sl_len (base b : Nat) : ∀ (vs : List Value), (lg_sl (vs.map (jm_cv base b))).length = (vs.flatMap (fun v => if jm_v2 v then [v, .null] else [v])).length
  | [] => rfl
  | w :: vs => by
    have ih := jm_sl_len base b vs
    simp only [lg_sl] at ih ⊢
    simp only [List.map_cons, List.flatMap_cons, List.length_append, jm_cv_cat, ih]
    congr 1
    by_cases hw : jm_v2 w = true
    · rw [if_pos hw, if_pos (jm_v2_cat2 hw)]; rfl
    · rw [if_neg hw, if_neg (show ¬ w.category = 2 by rw [jm_v2_cat hw]; decide)]; rfl
/-- the locals at a method's entry -/
theorem jm_lr_en {base b n : Nat} {mi : Nat} {as : List Value} (hn : n = jm_mx mi) (hle : (as.flatMap (fun v => if jm_v2 v then [v, .null] else [v])).length ≤ n) :
    jm_lr base b (jm_en mi as) ((lg_sl (as.map (jm_cv base b)) ++ List.replicate (n - (lg_sl (as.map (jm_cv base b))).length) Slot.unset).toArray) n := by
  have hlen := jm_sl_len base b as
  obtain ⟨h1, h2, h3⟩ := lv_entry (as.map (jm_cv base b)) (n := n) (by rw [hlen]; exact hle)
  refine ⟨?_, h1, h2, fun q hq => ?_⟩
  · simp only [jm_en, List.length_append, List.length_replicate]
    omega
  · obtain ⟨v, g1, g2, g3⟩ := jm_ll_of hq
    refine h3 q ?_
    rw [jm_args_cv]
    refine List.mem_map.mpr ⟨(q.1, v), ?_, by rw [← g3]⟩
    simp only [jm_en] at g1
    by_cases hk : q.1 < (as.flatMap (fun v => if jm_v2 v then [v, .null] else [v])).length
    · rw [List.getElem?_append_left hk] at g1
      have := jm_args_in as 0 q.1 v g1 g2
      rw [Nat.zero_add] at this
      exact this
    · rw [List.getElem?_append_right (by omega)] at g1
      have := List.mem_of_getElem? g1
      exact absurd (List.eq_of_mem_replicate this) g2
section JR
variable {p : Program} {l : Launch} {e : Env} {R : Room} {s : State} {m : MethodId} {args : Array Value} {below : List Frame} {meth : Method} {c : Code} {H : Heap} {locs : List Loc} {cells slots : Nat} {Q : State → Prop}
variable {cc : ByteArray} {pc : Nat} {A : Array Slot} {base b : Nat}
set_option maxHeartbeats 4000000 in
theorem jm_alu_s {ins : Instr} {st st' : List Value} (hx : p.tables.exec = Jvm.exec) (hb : c.code = cc) (hdg : decode cc pc = .ok (ins, jm_len ins)) (h : jm_alu ins st = some st')
    (k : W p l e R s m args below meth c H locs cells slots Q (F0 m (pc + jm_len ins) A (st'.map (jm_cv base b)))) : W p l e R s m args below meth c H locs cells slots Q (F0 m pc A (st.map (jm_cv base b))) := by
  unfold jm_alu at h
  split at h
  · cases h; exact lv_iconst hx hb hdg rfl k
  · cases h; exact lv_bipush hx hb hdg rfl k
  · cases h; exact lv_sipush hx hb hdg rfl k
  · cases h; exact lv_lconst hx hb hdg rfl k
  · split at h <;> cases h; exact lv_iadd hx hb hdg k
  · split at h <;> cases h; exact lv_isub hx hb hdg k
  · split at h <;> cases h; exact lv_imul hx hb hdg k
  · split at h <;> cases h; exact lv_iand hx hb hdg k
  · split at h <;> cases h; exact lv_ior hx hb hdg k
  · split at h <;> cases h; exact lv_ixor hx hb hdg k
  · split at h
    · split at h
      · cases h
      · next hne => cases h; exact lv_idiv hx hb hdg hne k
    · cases h
  · split at h
    · split at h
      · cases h
      · next hne => cases h; exact lv_irem hx hb hdg hne k
    · cases h
  · split at h <;> cases h; exact lv_ineg hx hb hdg k
  · split at h <;> cases h; exact lv_ishl hx hb hdg k
  · split at h <;> cases h; exact lv_ishr hx hb hdg k
  · split at h <;> cases h; exact lv_iushr hx hb hdg rfl k
  · split at h <;> cases h; exact lv_ladd hx hb hdg k
  · split at h <;> cases h; exact lv_lsub hx hb hdg k
  · split at h <;> cases h; exact lv_lmul hx hb hdg k
  · split at h <;> cases h; exact lv_land hx hb hdg k
  · split at h <;> cases h; exact lv_lor hx hb hdg k
  · split at h <;> cases h; exact lv_lxor hx hb hdg k
  · split at h
    · split at h
      · cases h
      · next hne => cases h; exact lv_ldiv hx hb hdg hne k
    · cases h
  · split at h
    · split at h
      · cases h
      · next hne => cases h; exact lv_lrem hx hb hdg hne k
    · cases h
  · split at h <;> cases h; exact lv_lneg hx hb hdg k
  · split at h <;> cases h; exact lv_lshl hx hb hdg rfl k
  · split at h <;> cases h; exact lv_lshr hx hb hdg rfl k
  · split at h <;> cases h; exact lv_lushr hx hb hdg rfl k
  · split at h <;> cases h; exact W.lcmp hx hb hdg k
  · split at h <;> cases h; exact lv_i2l hx hb hdg rfl k
  · split at h <;> cases h; exact lv_l2i hx hb hdg rfl k
  · split at h <;> cases h; exact lv_i2b hx hb hdg rfl k
  · split at h
    · split at h
      · cases h
      · next hv => cases h; exact lv_dup hx hb hdg (by rw [jm_cv_cat]; exact jm_v2_cat hv) k
    · cases h
  · split at h
    · split at h
      · cases h
      · next hv => cases h; exact lv_pop hx hb hdg (by rw [jm_cv_cat]; exact jm_v2_cat hv) k
    · cases h
  · split at h
    · split at h
      · cases h
      · next hv => cases h; exact lv_dup_x1 hx hb hdg (by rw [jm_cv_cat]; exact jm_v2_cat (fun q => hv (by rw [q]; rfl))) (by rw [jm_cv_cat]; exact jm_v2_cat (fun q => hv (by rw [q, Bool.or_true]))) k
    · cases h
  · split at h
    · split at h
      · cases h
      · next hv => cases h; exact lv_dup2_11 hx hb hdg (by rw [jm_cv_cat]; exact jm_v2_cat (fun q => hv (by rw [q]; rfl))) (by rw [jm_cv_cat]; exact jm_v2_cat (fun q => hv (by rw [q, Bool.or_true]))) k
    · cases h
  · split at h <;> cases h; exact lv_pop2_2 hx hb hdg rfl k
  · cases h
theorem jm_ld_s {ls ls' st st' : List Value} {n t i : Nat} (hlr : jm_lr base b ls A n) (h : jm_ld ls st t i = some (ls', st')) : ls' = ls ∧ ((t = 0 ∧ ∃ x, A[i]? = some (.val (.int x)) ∧ st' = .int x :: st) ∨ (t = 1 ∧ ∃ x, A[i]? = some (.val (.long x)) ∧ st' = .long x :: st) ∨ (t = 2 ∧ ∃ r, A[i]? = some (.val (.ref (jm_ad base b r))) ∧ st' = .ref r :: st)) := by
  unfold jm_ld at h
  split at h
  · next e => cases h; exact ⟨rfl, Or.inl ⟨rfl, _, jm_lr_get hlr e (by simp), rfl⟩⟩
  · next e => cases h; exact ⟨rfl, Or.inr (Or.inl ⟨rfl, _, jm_lr_get hlr e (by simp), rfl⟩)⟩
  · next e => cases h; exact ⟨rfl, Or.inr (Or.inr ⟨rfl, _, jm_lr_get hlr e (by simp), rfl⟩)⟩
  · cases h
set_option maxHeartbeats 4000000 in
theorem jm_loc_s {ins : Instr} {ls ls' st st' : List Value} {n : Nat} (hx : p.tables.exec = Jvm.exec) (hb : c.code = cc) (hdg : decode cc pc = .ok (ins, jm_len ins)) (hlr : jm_lr base b ls A n) (h : jm_loc ins ls st = some (ls', st'))
    (k : ∀ A' : Array Slot, jm_lr base b ls' A' n → W p l e R s m args below meth c H locs cells slots Q (F0 m (pc + jm_len ins) A' (st'.map (jm_cv base b)))) : W p l e R s m args below meth c H locs cells slots Q (F0 m pc A (st.map (jm_cv base b))) := by
  have hlen := hlr.1
  unfold jm_loc at h
  split at h
  · obtain ⟨rfl, ⟨-, x, g, rfl⟩ | ⟨z, -⟩ | ⟨z, -⟩⟩ := jm_ld_s hlr h
    · exact lv_iload hx hb hdg g (k A hlr)
    · cases z
    · cases z
  · obtain ⟨rfl, ⟨-, x, g, rfl⟩ | ⟨z, -⟩ | ⟨z, -⟩⟩ := jm_ld_s hlr h
    · exact lv_iload_n hx hb hdg rfl g (k A hlr)
    · cases z
    · cases z
  · obtain ⟨rfl, ⟨z, -⟩ | ⟨-, x, g, rfl⟩ | ⟨z, -⟩⟩ := jm_ld_s hlr h
    · cases z
    · exact lv_lload hx hb hdg g (k A hlr)
    · cases z
  · obtain ⟨rfl, ⟨z, -⟩ | ⟨-, x, g, rfl⟩ | ⟨z, -⟩⟩ := jm_ld_s hlr h
    · cases z
    · exact lv_lload_n hx hb hdg rfl g (k A hlr)
    · cases z
  · obtain ⟨rfl, ⟨z, -⟩ | ⟨z, -⟩ | ⟨-, x, g, rfl⟩⟩ := jm_ld_s hlr h
    · cases z
    · cases z
    · exact lv_aload hx hb hdg g (k A hlr)
  · obtain ⟨rfl, ⟨z, -⟩ | ⟨z, -⟩ | ⟨-, x, g, rfl⟩⟩ := jm_ld_s hlr h
    · cases z
    · cases z
    · exact lv_aload_n hx hb hdg rfl g (k A hlr)
  · unfold jm_so at h
    split at h
    · split at h
      · next hi => cases h; exact lv_istore hx hb hdg hlr.2 (by omega) rfl fun A' h' => k A' (jm_lr_set hlen (by omega) h')
      · cases h
    all_goals first | cases h | (next z => cases z)
  · unfold jm_so at h
    split at h
    · split at h
      · next hi => cases h; exact lv_istore_n hx hb hdg rfl hlr.2 (by omega) rfl fun A' h' => k A' (jm_lr_set hlen (by omega) h')
      · cases h
    all_goals first | cases h | (next z => cases z)
  · unfold jm_so at h
    split at h
    · next z => cases z
    · split at h
      · next hi => cases h; exact lv_lstore hx hb hdg hlr.2 (by omega) rfl fun A' h' => k A' (jm_lr_set2 hlen (by omega) h')
      · cases h
    all_goals first | cases h | (next z => cases z)
  · unfold jm_so at h
    split at h
    · next z => cases z
    · split at h
      · next hi => cases h; exact lv_lstore_n hx hb hdg rfl hlr.2 (by omega) rfl fun A' h' => k A' (jm_lr_set2 hlen (by omega) h')
      · cases h
    all_goals first | cases h | (next z => cases z)
  · unfold jm_so at h
    split at h
    · next z => cases z
    · next z => cases z
    · split at h
      · next hi => cases h; exact lv_astore hx hb hdg hlr.2 (by omega) rfl fun A' h' => k A' (jm_lr_set (v := .ref _) hlen (by omega) h')
      · cases h
    all_goals first | cases h | (next z => cases z)
  · unfold jm_so at h
    split at h
    · next z => cases z
    · next z => cases z
    · split at h
      · next hi => cases h; exact lv_astore_n hx hb hdg rfl hlr.2 (by omega) rfl fun A' h' => k A' (jm_lr_set (v := .ref _) hlen (by omega) h')
      · cases h
    all_goals first | cases h | (next z => cases z)
  · split at h
    · next i n x e =>
      cases h
      obtain ⟨kk, hkk⟩ := List.getElem?_of_mem (jm_ll_in (base := base) (b := b) e (by simp))
      exact lv_iinc hx hb hdg hlr.2 hkk rfl (by rw [← hlen]; exact (List.getElem?_eq_some_iff.mp e).1) rfl fun A' h' => k A' (jm_lr_inc hlr e h')
    · cases h
  · cases h
theorem jm_tgt_s {pc t : Nat} {off : Int} (h : jm_tgt pc off = some t) : (pc : Int) + off = (t : Int) := by
  unfold jm_tgt at h
  split at h
  · next e => cases h; exact e
  · cases h
theorem jm_cond_t {bb : Bool} {x y : Nat} (h : bb = true) : (cond bb x y) = x := by rw [h]; rfl
theorem jm_cond_f {bb : Bool} {x y : Nat} (h : ¬ bb = true) : (cond bb x y) = y := by
  cases bb
  · rfl
  · exact absurd rfl h
set_option maxHeartbeats 4000000 in
theorem jm_br_s {ins : Instr} {st st' : List Value} {pc' len : Nat} (hx : p.tables.exec = Jvm.exec) (hb : c.code = cc) (hdg : decode cc pc = .ok (ins, len)) (hl3 : jm_sw ins = false → len = 3) (h : jm_br ins pc st = some (pc', st'))
    (k : W p l e R s m args below meth c H locs cells slots Q (F0 m pc' A (st'.map (jm_cv base b)))) : W p l e R s m args below meth c H locs cells slots Q (F0 m pc A (st.map (jm_cv base b))) := by
  unfold jm_br at h
  split at h
  · next cd off =>
    obtain rfl := hl3 rfl
    split at h
    · split at h
      · next t ht =>
        have ht := jm_tgt_s ht
        cases h
        cases cd
        · exact lv_if_eq hx hb hdg ht (fun q => by rw [jm_cond_t (by simpa [jm_cz] using q)] at k; exact k) (fun q => by rw [jm_cond_f (by simpa [jm_cz] using q)] at k; exact k)
        · exact lv_if_ne hx hb hdg ht (fun q => by rw [jm_cond_t (by simpa [jm_cz] using q)] at k; exact k) (fun q => by rw [jm_cond_f (by simpa [jm_cz] using q)] at k; exact k)
        · exact lv_if_lt hx hb hdg ht (fun q => by rw [jm_cond_t (by simpa [jm_cz] using q)] at k; exact k) (fun q => by rw [jm_cond_f (by simpa only [jm_cz, decide_eq_true_eq] using q)] at k; exact k)
        · exact lv_if_ge hx hb hdg ht (fun q => by rw [jm_cond_t (by simpa [jm_cz] using q)] at k; exact k) (fun q => by rw [jm_cond_f (by simpa only [jm_cz, decide_eq_true_eq] using q)] at k; exact k)
        · exact lv_if_gt hx hb hdg ht (fun q => by rw [jm_cond_t (by simpa [jm_cz] using q)] at k; exact k) (fun q => by rw [jm_cond_f (by simpa only [jm_cz, decide_eq_true_eq] using q)] at k; exact k)
        · exact lv_if_le hx hb hdg ht (fun q => by rw [jm_cond_t (by simpa [jm_cz] using q)] at k; exact k) (fun q => by rw [jm_cond_f (by simpa only [jm_cz, decide_eq_true_eq] using q)] at k; exact k)
      · cases h
    · cases h
  · next cd off =>
    obtain rfl := hl3 rfl
    split at h
    · split at h
      · next t ht =>
        have ht := jm_tgt_s ht
        cases h
        cases cd
        · exact lv_icmp_eq hx hb hdg ht (fun q => by rw [jm_cond_t (by simpa [jm_cc] using q)] at k; exact k) (fun q => by rw [jm_cond_f (by simpa [jm_cc] using q)] at k; exact k)
        · exact lv_icmp_ne hx hb hdg ht (fun q => by rw [jm_cond_t (by simpa [jm_cc] using q)] at k; exact k) (fun q => by rw [jm_cond_f (by simpa [jm_cc] using q)] at k; exact k)
        · exact lv_icmp_lt hx hb hdg ht (fun q => by rw [jm_cond_t (by simpa [jm_cc] using q)] at k; exact k) (fun q => by rw [jm_cond_f (by simpa only [jm_cc, decide_eq_true_eq] using q)] at k; exact k)
        · exact lv_icmp_ge hx hb hdg ht (fun q => by rw [jm_cond_t (by simpa [jm_cc] using q)] at k; exact k) (fun q => by rw [jm_cond_f (by simpa only [jm_cc, decide_eq_true_eq] using q)] at k; exact k)
        · exact lv_icmp_gt hx hb hdg ht (fun q => by rw [jm_cond_t (by simpa [jm_cc] using q)] at k; exact k) (fun q => by rw [jm_cond_f (by simpa only [jm_cc, decide_eq_true_eq] using q)] at k; exact k)
        · exact lv_icmp_le hx hb hdg ht (fun q => by rw [jm_cond_t (by simpa [jm_cc] using q)] at k; exact k) (fun q => by rw [jm_cond_f (by simpa only [jm_cc, decide_eq_true_eq] using q)] at k; exact k)
      · cases h
    · cases h
  · obtain rfl := hl3 rfl
    split at h
    · next t ht => cases h; exact lv_goto hx hb hdg (jm_tgt_s ht) k
    · cases h
  · split at h
    · split at h
      · next hr =>
        split at h
        · next t ht => cases h; exact lv_tableOut hx hb hdg hr (jm_tgt_s ht) k
        · cases h
      · next hr =>
        split at h
        · next off ho =>
          split at h
          · next t ht => cases h; exact lv_tableIn hx hb hdg (fun q => hr (Or.inl q)) (fun q => hr (Or.inr q)) ho (jm_tgt_s ht) k
          · cases h
        · cases h
    · cases h
  · split at h
    · split at h
      · next hp =>
        split at h
        · next t ht => cases h; exact lv_lookup hx hb hdg hp rfl (jm_tgt_s ht) k
        · cases h
      · cases h
    · cases h
  · cases h
end JR
