/-! what every call of the class leaves so: the bounds that its own guards rest on -/
/-- a state, its sum -/
def js_S (r : Nat) : Prop := r = 31 ∨ (35 ≤ r ∧ r ≤ 152 ∧ r % 3 = 2) ∨ r = 157 ∨ r = 163 ∨ r = 169
def js_U (r : Nat) : Prop := r = 32 ∨ (36 ≤ r ∧ r ≤ 153 ∧ r % 3 = 0) ∨ r = 158 ∨ r = 164 ∨ r = 170
def jv (r k : Nat) (v : Int32) : Prop := (js_S r → (k = 1 → 3 ≤ v.toInt ∧ v.toInt ≤ 12) ∧ (k = 2 → 0 ≤ v.toInt ∧ v.toInt ≤ 2)) ∧ (js_U r → (k = 1 ∨ k = 2) → v = 0 ∨ v = 1) ∧ ((r = 4 ∨ r = 160 ∨ r = 166 ∨ r = 172) → k = 1 → 0 ≤ v.toInt ∧ v.toInt ≤ 2000) ∧ (r = 2 → (k = 14 → 0 ≤ v.toInt ∧ v.toInt < 40) ∧ (k = 15 → 0 ≤ v.toInt ∧ v.toInt ≤ 40)) ∧ (r = 174 → k < 8 → 0 ≤ v.toInt ∧ v.toInt < 4096) ∧ ((r = 7 ∨ r = 177) → (k = 2 → 0 ≤ v.toInt ∧ v.toInt ≤ 400) ∧ (k = 3 → 0 ≤ v.toInt ∧ v.toInt ≤ 8)) ∧ (r = 10 → k = 5 → 0 ≤ v.toInt ∧ v.toInt ≤ 400)
/-- nothing is asked of this object's numbers -/
def jv_no (r : Nat) : Prop := ¬ js_S r ∧ ¬ js_U r ∧ r ≠ 4 ∧ r ≠ 160 ∧ r ≠ 166 ∧ r ≠ 172 ∧ r ≠ 2 ∧ r ≠ 174 ∧ r ≠ 7 ∧ r ≠ 177 ∧ r ≠ 10
theorem jv_free {r k : Nat} {v : Int32} (h : jv_no r) : jv r k v := by
  obtain ⟨h1, h2, h3, h4, h5, h6, h7, h8, h9, h10, h11⟩ := h
  exact ⟨fun g => absurd g h1, fun g => absurd g h2, fun g => by omega, fun g => absurd g h7, fun g => absurd g h8, fun g => by omega, fun g => absurd g h11⟩
/-- the texts: one in force, one to read into -/
def jk_T (H : jm_H) : Prop := (jm_R H 2 13 = 177 ∧ jm_R H 3 2 = 7) ∨ (jm_R H 2 13 = 7 ∧ jm_R H 3 2 = 177)
def jk (H : jm_H) : Prop := jm_st H ∧ jk_T H ∧ ∀ r k, jv r k (jm_I H r k)
theorem jk_st {H : jm_H} (h : jk H) : jm_st H := h.1
theorem jk_pI {H : jm_H} {r k : Nat} {v : Int32} (h : jk H) (hv : jv r k v) : jk (jm_pI H r k v) := by
  refine ⟨jf_fr_st (jf_fr_pI (P := fun _ => True) trivial) h.1, h.2.1, fun r' k' => ?_⟩
  rw [jm_I_pI]
  by_cases g : r' = r ∧ k' = k
  · rw [if_pos g, g.1, g.2]; exact hv
  · rw [if_neg g]; exact h.2.2 r' k'
theorem jk_pL {H : jm_H} {r k : Nat} {v : Int64} (h : jk H) : jk (jm_pL H r k v) := ⟨jf_fr_st (jf_fr_pL (P := fun _ => True) trivial) h.1, h.2.1, h.2.2⟩
theorem jk_fr {P : Nat → Prop} {H H1 : jm_H} (f : jf_fr P H H1) (hP : ∀ r, P r → jv_no r) (h : jk H) : jk H1 := by
  refine ⟨jf_fr_st f h.1, ?_, fun r k => ?_⟩
  · unfold jk_T
    rw [f.2.2.2.1]
    exact h.2.1
  · by_cases g : P r
    · exact jv_free (hP r g)
    · rw [(f.2.2.2.2 r g).1]
      exact h.2.2 r k
/-- what is asked, object by object, of those that are asked -/
theorem jk_G_S : ∀ r, r < 170 → (r = 31 ∨ (35 ≤ r ∧ r ≤ 152 ∧ r % 3 = 2) ∨ r = 157 ∨ r = 163 ∨ r = 169) → jm_I jm_G r 1 = 8 ∧ jm_I jm_G r 2 = 1 := of_decide_eq_true ((Bool.and_eq_true _ _).mp (((Bool.and_eq_true _ _).mp (((Bool.and_eq_true _ _).mp (((Bool.and_eq_true _ _).mp (((Bool.and_eq_true _ _).mp (((Bool.and_eq_true _ _).mp jm_gx).2)).2)).2)).2)).2)).1
theorem jk_G_U : ∀ r, r < 171 → (r = 32 ∨ (36 ≤ r ∧ r ≤ 153 ∧ r % 3 = 0) ∨ r = 158 ∨ r = 164 ∨ r = 170) → jm_I jm_G r 1 = 0 ∧ jm_I jm_G r 2 = 0 := of_decide_eq_true ((Bool.and_eq_true _ _).mp (((Bool.and_eq_true _ _).mp (((Bool.and_eq_true _ _).mp (((Bool.and_eq_true _ _).mp (((Bool.and_eq_true _ _).mp (((Bool.and_eq_true _ _).mp (((Bool.and_eq_true _ _).mp jm_gx).2)).2)).2)).2)).2)).2)).1
theorem jk_G_o : jm_I jm_G 4 1 = 0 ∧ jm_I jm_G 160 1 = 0 ∧ jm_I jm_G 166 1 = 0 ∧ jm_I jm_G 172 1 = 0 ∧ jm_I jm_G 2 14 = 0 ∧ jm_I jm_G 2 15 = 0 ∧ (∀ k, k < 8 → jm_I jm_G 174 k = 0) ∧ jm_I jm_G 7 2 = 0 ∧ jm_I jm_G 7 3 = 0 ∧ jm_I jm_G 177 2 = 0 ∧ jm_I jm_G 177 3 = 0 ∧ jm_I jm_G 10 5 = 0 := of_decide_eq_true (((Bool.and_eq_true _ _).mp (((Bool.and_eq_true _ _).mp (((Bool.and_eq_true _ _).mp (((Bool.and_eq_true _ _).mp (((Bool.and_eq_true _ _).mp (((Bool.and_eq_true _ _).mp (((Bool.and_eq_true _ _).mp jm_gx).2)).2)).2)).2)).2)).2)).2)
theorem jk_G : jk jm_G := by
  refine ⟨jm_G_st, Or.inl ⟨jm_G_fresh.2.2.1, jm_G_fresh.2.2.2⟩, fun r k => ?_⟩
  obtain ⟨a1, a2, a3, a4, a5, a6, a7, a8, a9, a10, a11, a12⟩ := jk_G_o
  have z : (0 : Int32).toInt = 0 := by decide
  refine ⟨fun h => ?_, fun h hk => ?_, fun h hk => ?_, fun h => ⟨fun hk => ?_, fun hk => ?_⟩, fun h hk => ?_, fun h => ⟨fun hk => ?_, fun hk => ?_⟩, fun h hk => ?_⟩
  · have e := jk_G_S r (by unfold js_S at h; omega) h
    refine ⟨fun hk => ?_, fun hk => ?_⟩
    · rw [hk, e.1]; decide
    · rw [hk, e.2]; decide
  · have e := jk_G_U r (by unfold js_U at h; omega) h
    rcases hk with rfl | rfl
    · exact Or.inl e.1
    · exact Or.inl e.2
  · subst hk
    rcases h with rfl | rfl | rfl | rfl
    · rw [a1, z]; omega
    · rw [a2, z]; omega
    · rw [a3, z]; omega
    · rw [a4, z]; omega
  · rw [h, hk, a5, z]; omega
  · rw [h, hk, a6, z]; omega
  · rw [h, a7 k hk, z]; omega
  · subst hk
    rcases h with rfl | rfl
    · rw [a8, z]; omega
    · rw [a10, z]; omega
  · subst hk
    rcases h with rfl | rfl
    · rw [a9, z]; omega
    · rw [a11, z]; omega
  · rw [h, hk, a12, z]; omega
/-! comes to an end: with a heap and an answer of which so much is known -/
def jz (K : jm_H → Prop) (R : Option Value → Prop) (x : (Option Value → jm_H → Prop) → Prop) : Prop := ∃ v H1, K H1 ∧ R v ∧ ∀ Q, x Q = Q v H1
section JZ
variable {K : jm_H → Prop} {R : Option Value → Prop}
theorem jz_eq {x y : (Option Value → jm_H → Prop) → Prop} (h : ∀ Q, x Q = y Q) (g : jz K R y) : jz K R x := by
  obtain ⟨v, H1, hk, hr, q⟩ := g
  exact ⟨v, H1, hk, hr, fun Q => (h Q).trans (q Q)⟩
theorem jz_if {c : Prop} [Decidable c] {x y : (Option Value → jm_H → Prop) → Prop} (h1 : c → jz K R x) (h2 : ¬ c → jz K R y) : jz K R (fun Q => if c then x Q else y Q) := by
  by_cases h : c
  · exact jz_eq (fun Q => if_pos h) (h1 h)
  · exact jz_eq (fun Q => if_neg h) (h2 h)
theorem jz_end {v : Option Value} {H : jm_H} (hk : K H) (hr : R v) : jz K R (fun Q => Q v H) := ⟨v, H, hk, hr, fun _ => rfl⟩
theorem jz_call {K' : jm_H → Prop} {R' : Option Value → Prop} {S : Option (Nat × (Nat → Int32))} {mi : Nat} {as : List Value} {H : jm_H} {k : Option Value → jm_H → (Option Value → jm_H → Prop) → Prop} (h : jz K' R' (fun Q => jm_c S mi as H Q)) (g : ∀ v G, K' G → R' v → jz K R (fun Q => k v G Q)) : jz K R (fun Q => jm_c S mi as H (fun v G => k v G Q)) := by
  obtain ⟨v, G, hk, hr, q⟩ := h
  obtain ⟨v1, H1, hk1, hr1, q1⟩ := g v G hk hr
  exact ⟨v1, H1, hk1, hr1, fun Q => by rw [q]; exact q1 Q⟩
theorem jz_mono {K' : jm_H → Prop} {R' : Option Value → Prop} {x : (Option Value → jm_H → Prop) → Prop} (h : jz K R x) (hk : ∀ G, K G → K' G) (hr : ∀ v, R v → R' v) : jz K' R' x := by
  obtain ⟨v, G, k, r, q⟩ := h
  exact ⟨v, G, hk G k, hr v r, q⟩
end JZ
/-- nothing; a number -/
def jz_0 (v : Option Value) : Prop := v = none
def jz_I (v : Option Value) : Prop := ∃ x : Int32, v = some (.int x)
/-- the other side's objects are as they were -/
def jk_w (H G : jm_H) : Prop := G.1 = H.1 ∧ jm_tg G = jm_tg H ∧ jm_ln G = jm_ln H ∧ ∀ r, 180 ≤ r → jm_I G r = jm_I H r ∧ jm_L G r = jm_L H r ∧ jm_R G r = jm_R H r
theorem jk_w_refl (H : jm_H) : jk_w H H := ⟨rfl, rfl, rfl, fun _ _ => ⟨rfl, rfl, rfl⟩⟩
theorem jk_w_trans {H G G' : jm_H} (h : jk_w H G) (h' : jk_w G G') : jk_w H G' := ⟨h'.1.trans h.1, h'.2.1.trans h.2.1, h'.2.2.1.trans h.2.2.1, fun r hr => ⟨(h'.2.2.2 r hr).1.trans (h.2.2.2 r hr).1, (h'.2.2.2 r hr).2.1.trans (h.2.2.2 r hr).2.1, (h'.2.2.2 r hr).2.2.trans (h.2.2.2 r hr).2.2⟩⟩
theorem jk_w_fr {P : Nat → Prop} {H G : jm_H} (f : jf_fr P H G) (hP : ∀ r, P r → r < 180) : jk_w H G := ⟨f.1, f.2.1, f.2.2.1, fun r hr => ⟨(f.2.2.2.2 r (fun g => by have := hP r g; omega)).1, (f.2.2.2.2 r (fun g => by have := hP r g; omega)).2, by rw [f.2.2.2.1]⟩⟩
/-- what a call of the class from H on leaves -/
def jK (H G : jm_H) : Prop := jk G ∧ jk_w H G
theorem jK_refl {H : jm_H} (h : jk H) : jK H H := ⟨h, jk_w_refl H⟩
theorem jK_trans {H G G' : jm_H} (h : jK H G) (h' : jK G G') : jK H G' := ⟨h'.1, jk_w_trans h.2 h'.2⟩
theorem jK_pI {H G : jm_H} {r k : Nat} {v : Int32} (h : jK H G) (hr : r < 180) (hv : jv r k v) : jK H (jm_pI G r k v) := ⟨jk_pI h.1 hv, jk_w_trans h.2 (jk_w_fr (P := fun q => q = r) (jf_fr_pI rfl) (fun q hq => by rw [hq]; exact hr))⟩
theorem jK_pL {H G : jm_H} {r k : Nat} {v : Int64} (h : jK H G) (hr : r < 180) : jK H (jm_pL G r k v) := ⟨jk_pL h.1, jk_w_trans h.2 (jk_w_fr (P := fun q => q = r) (jf_fr_pL rfl) (fun q hq => by rw [hq]; exact hr))⟩
theorem jK_fr {P : Nat → Prop} {H G G' : jm_H} (h : jK H G) (f : jf_fr P G G') (hP : ∀ r, P r → r < 180 ∧ jv_no r) : jK H G' := ⟨jk_fr f (fun r g => (hP r g).2) h.1, jk_w_trans h.2 (jk_w_fr f (fun r g => (hP r g).1))⟩
theorem jv_no_RR {r : Nat} (h : jq_RR r) : r < 180 ∧ jv_no r := by
  have h1 := h.1
  have h2 := h.2
  unfold jv_no js_S js_U
  omega
