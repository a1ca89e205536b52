set_option maxRecDepth 20000
/-! the reference's syntax: line by line -/
theorem au_d_no {s : Int32 × List (Int32 × Nat)} {k : Int32} (h9 : k ≠ 9) (h5 : ¬ (k = 5 ∨ k = 6 ∨ k = 7 ∨ k = 8)) (h11 : k ≠ 11) (h10 : k ≠ 10) (h1 : ¬ (k = 22 ∨ k = 23 ∨ k = 1 ∨ k = 2)) : au_d s k = none := by
  obtain ⟨l, o⟩ := s
  unfold au_d
  dsimp only
  by_cases hp : l = 22 ∨ l = 23
  · rw [if_pos hp, if_neg h9]
  · rw [if_neg hp]
    by_cases ho : l = 1 ∨ l = 2 ∨ l = 10
    · rw [if_pos ho, if_neg h5]
      cases o with
      | nil => rfl
      | cons q r => dsimp only; rw [if_neg (fun g => h11 g.1), if_neg (fun g => h10 g.1)]
    · rw [if_neg ho, if_neg (fun g => h5 (Or.inr (Or.inl g.1))), if_neg h9, if_neg h1]
theorem au_d_ok {s s' : Int32 × List (Int32 × Nat)} {k : Int32} (h : au_d s k = some s') : k ≠ 0 ∧ k ≠ 21 ∧ k ≠ 4 := by
  refine ⟨fun e => ?_, fun e => ?_, fun e => ?_⟩
  all_goals
    subst e
    rw [au_d_no (by decide) (by decide) (by decide) (by decide) (by decide)] at h
    cases h
theorem au_pre {kd : Nat → Int32} {t0 : Nat} : ∀ (n : Nat) {s : Int32 × List (Int32 × Nat)}, au kd t0 n = some s → ∀ i, i < n → ∃ s1 s2, au kd t0 i = some s1 ∧ au_d s1 (kd (t0 + i)) = some s2 ∧ au kd t0 (i + 1) = some s2
  | 0, s, _, i, hi => absurd hi (Nat.not_lt_zero _)
  | n + 1, s, h, i, hi => by
    have h' : (au kd t0 n).bind (fun s => au_d s (kd (t0 + n))) = some s := h
    cases e : au kd t0 n with
    | none => rw [e] at h'; cases h'
    | some s1 =>
      rw [e] at h'
      by_cases g : i = n
      · subst g
        exact ⟨s1, s, e, h', h⟩
      · exact au_pre n e i (by omega)
theorem au_no {kd : Nat → Int32} {t0 n : Nat} {s : Int32 × List (Int32 × Nat)} (h : au kd t0 n = some s) {i : Nat} (hi : i < n) : kd (t0 + i) ≠ 0 ∧ kd (t0 + i) ≠ 21 ∧ kd (t0 + i) ≠ 4 := by
  obtain ⟨s1, s2, _, h2, _⟩ := au_pre n h i hi
  exact au_d_ok h2
/-- a line that passes: its name, its expression, its end -/
def lineok (kd : Nat → Int32) (k t : Nat) : Prop := kd (k + 1) = 1 ∧ ∃ e s, k + 2 ≤ e ∧ e < t ∧ au kd (k + 2) (e - (k + 2)) = some s ∧ au_acc s ∧ kd e = 4
def lcnt (kd : Nat → Int32) : Nat → Nat
  | 0 => 0
  | n + 1 => lcnt kd n + (if kd n = 21 then 1 else 0)
theorem lcnt_run {kd : Nat → Int32} {a : Nat} : ∀ n, (∀ i, i < n → kd (a + i) ≠ 21) → lcnt kd (a + n) = lcnt kd a
  | 0, _ => rfl
  | n + 1, h => by
    show lcnt kd (a + n) + (if kd (a + n) = 21 then 1 else 0) = _
    rw [lcnt_run n (fun i hi => h i (by omega)), if_neg (h n (by omega)), Nat.add_zero]
def jXl (G0 G1 : jm_H) (t L : Nat) (G : jm_H) : Prop := jXt G0 G1 t L G ∧ L ≤ 8 ∧ lcnt (jm_I G1 183) t = L ∧ (∀ k, k < t → jm_I G1 183 k ≠ 0) ∧ ∀ k, k < t → jm_I G1 183 k = 21 → lineok (jm_I G1 183) k t
section LINE
variable {S : Option (Nat × (Nat → Int32))} {G0 G1 : jm_H}
theorem z172 {G : jm_H} {t L : Nat} (hG : jXl G0 G1 t L G) : jz (fun G' => jXf G0 G1 G' ∨ ∃ t' L', t < t' ∧ jXl G0 G1 t' L' G') jz_0 (fun Q => jm_c S 172 [.ref 180] G Q) := by
  have hX := hG.1
  have t0' := st_t180 (jX_st hX.1)
  refine jz_eq (fun _ => en172.trans (u172_0 t0')) (x169 hX (fun e => ?_) (fun _ => ?_))
  rotate_left
  · refine jz_eq (fun _ => u172_6) (jz_if (fun c => absurd rfl c) (fun _ => ?_))
    refine jz_eq (fun _ => u172_9 t0') (x171 hX (by decide) (fun G' hG' _ => ?_))
    exact jz_eq (fun _ => u172_14) (jz_end (Or.inl hG') rfl)
  refine jz_eq (fun _ => u172_6) (jz_if (fun _ => ?_) (fun c => absurd (show ¬ (1 : Int32) = 0 by decide) c))
  refine jz_eq (fun _ => u172_15 t0') ?_
  rw [hX.2.2.2.2]
  refine jz_if (fun c => ?_) (fun _ => ?_)
  rotate_left
  · refine jz_eq (fun _ => u172_24 t0') (x171 hX (by decide) (fun G' hG' _ => ?_))
    exact jz_eq (fun _ => u172_29) (jz_end (Or.inl hG') rfl)
  have hL : L < 8 := by
    have : L ≠ 8 := fun q => c (by rw [q]; rfl)
    have := hG.2.1
    omega
  refine jz_eq (fun _ => u172_30 t0') ?_
  rw [hX.2.2.2.2, nI_succK]
  have k1 : jXt G0 G1 t (L + 1) (jm_pI G 180 18 (nI (L + 1))) := by
    refine ⟨jX_pI hX.1 (by decide), ?_, hX.2.2.1, ?_, by rw [jm_I_pI, if_pos ⟨rfl, rfl⟩]⟩
    · rw [jm_I_pI, if_neg (by decide)]; exact hX.2.1
    · rw [jm_I_pI, if_neg (by decide)]; exact hX.2.2.2.1
  -- behind a fault
  have f49 : ∀ {G : jm_H}, jXf G0 G1 G → jz (fun G' => jXf G0 G1 G' ∨ ∃ t' L', t < t' ∧ jXl G0 G1 t' L' G') jz_0 (fun Q => jm_w S 5 172 49 [.ref 180] [] G Q) := by
    intro G hG
    refine jz_eq (fun _ => u172_49 (st_t180 (jX_st hG.1))) (jz_call (f173 hG) (fun v G hG hv => ?_))
    obtain rfl := hv
    refine jz_eq (fun _ => u172_53 (st_t180 (jX_st hG.1))) (f168 hG ?_)
    exact jz_eq (fun _ => u172_58) (jz_end (Or.inl hG) rfl)
  refine x170 k1 (fun ht => ?_) (fun G' hG' _ => ?_)
  rotate_left
  · exact jz_eq (fun _ => u172_44 (st_t180 (jX_st hG'.1))) (f168 hG' (f49 hG'))
  have k2 := jXt_on k1 ht
  refine jz_eq (fun _ => u172_44 (st_t180 (jX_st k2.1))) (x168 k2 (fun ht2 e1 => ?_) (fun G' hG' _ => f49 hG'))
  have k3 := jXt_on k2 ht2
  refine jz_eq (fun _ => u172_49 (st_t180 (jX_st k3.1))) (jz_call (z173 k3) (fun v G3 hG3 hv => ?_))
  obtain rfl := hv
  rcases hG3 with hF | ⟨t', s, k4, h4, ha, hacc⟩
  · refine jz_eq (fun _ => u172_53 (st_t180 (jX_st hF.1))) (f168 hF ?_)
    exact jz_eq (fun _ => u172_58) (jz_end (Or.inl hF) rfl)
  refine jz_eq (fun _ => u172_53 (st_t180 (jX_st k4.1))) (x168 k4 (fun ht4 e4 => ?_) (fun G' hG' _ => ?_))
  rotate_left
  · exact jz_eq (fun _ => u172_58) (jz_end (Or.inl hG') rfl)
  have no : ∀ i, t + 1 + 1 ≤ i → i < t' → jm_I G1 183 i ≠ 0 ∧ jm_I G1 183 i ≠ 21 ∧ jm_I G1 183 i ≠ 4 := fun i h1 h2 => by
    have := au_no ha (i := i - (t + 1 + 1)) (by omega)
    rw [show t + 1 + 1 + (i - (t + 1 + 1)) = i by omega] at this
    exact this
  refine jz_eq (fun _ => u172_58) (jz_end (Or.inr ⟨t' + 1, L + 1, by omega, jXt_on k4 ht4, by omega, ?_, fun k hk => ?_, fun k hk => ?_⟩) rfl)
  · have a1 : lcnt (jm_I G1 183) (t + 1) = L + 1 := by
      show lcnt (jm_I G1 183) t + (if jm_I G1 183 t = 21 then 1 else 0) = _
      rw [hG.2.2.1, if_pos e]
    have a2 := lcnt_run (kd := jm_I G1 183) (a := t + 1) (t' + 1 - (t + 1)) (fun i hi => by
      by_cases g : i = 0
      · subst g
        rw [Nat.add_zero, e1]; decide
      · by_cases g2 : t + 1 + i = t'
        · rw [g2, e4]; decide
        · exact (no (t + 1 + i) (by omega) (by omega)).2.1)
    rw [show t + 1 + (t' + 1 - (t + 1)) = t' + 1 by omega] at a2
    rw [a2, a1]
  · rcases Nat.lt_or_ge k t with h | h
    · exact hG.2.2.2.1 k h
    · by_cases g : k = t
      · rw [g, e]; decide
      · by_cases g1 : k = t + 1
        · rw [g1, e1]; decide
        · by_cases g2 : k = t'
          · rw [g2, e4]; decide
          · exact (no k (by omega) (by omega)).1
  · intro hk21
    rcases Nat.lt_or_ge k t with h | h
    · obtain ⟨a, e', s', b1, b2, b3, b4, b5⟩ := hG.2.2.2.2 k h hk21
      exact ⟨a, e', s', b1, by omega, b3, b4, b5⟩
    · by_cases g : k = t
      · subst g
        exact ⟨e1, t', s, by omega, by omega, ha, hacc, e4⟩
      · exfalso
        by_cases g1 : k = t + 1
        · rw [g1, e1] at hk21; exact absurd hk21 (by decide)
        · by_cases g2 : k = t'
          · rw [g2, e4] at hk21; exact absurd hk21 (by decide)
          · exact (no k (by omega) (by omega)).2.1 hk21
/-- all lines have passed, or a fault -/
def jXa (G0 G1 G : jm_H) : Prop := jXf G0 G1 G ∨ ∃ t L, jXl G0 G1 t L G ∧ jm_I G1 183 t = 0 ∧ 4 ≤ t
theorem l160 : ∀ (d t L : Nat), 401 ≤ t + d → 4 ≤ t → ∀ {x1 : Int32} {G : jm_H}, jXl G0 G1 t L G → ∀ {K : jm_H → Prop} {R : Option Value → Prop}, (∀ {G : jm_H}, jXa G0 G1 G → jz K R (fun Q => jm_w S 10 160 108 [.ref 180, .int x1] [] G Q)) → jz K R (fun Q => jm_w S 10 160 86 [.ref 180, .int x1] [] G Q)
  | 0, t, L, hd, h4, x1, G, hG, K, R, E => by have := hG.1.2.2.1; omega
  | d + 1, t, L, hd, h4, x1, G, hG, K, R, E => by
    have hX := hG.1
    have t0' := st_t180 (jX_st hX.1)
    refine jz_eq (fun _ => u160_86 t0') (jz_if (fun c => absurd hX.2.2.2.1 c) (fun _ => ?_))
    refine jz_eq (fun _ => u160_93 t0') (x169 hX (fun e => ?_) (fun _ => ?_))
    · exact jz_eq (fun _ => u160_98) (jz_if (fun _ => E (Or.inr ⟨t, L, hG, e, h4⟩)) (fun c => absurd (show ¬ (1 : Int32) = 0 by decide) c))
    · refine jz_eq (fun _ => u160_98) (jz_if (fun c => absurd rfl c) (fun _ => ?_))
      refine jz_eq (fun _ => u160_101 t0') (jz_call (z172 hG) (fun v G2 hG2 hv => ?_))
      obtain rfl := hv
      refine jz_eq (fun _ => u160_105) ?_
      rcases hG2 with hF | ⟨t', L', h1, h2⟩
      · exact jz_eq (fun _ => u160_86 (st_t180 (jX_st hF.1))) (jz_if (fun _ => E (Or.inl hF)) (fun c => absurd (jXf_0 hF) c))
      · exact l160 d t' L' (by omega) (by omega) h2 E
/-- the syntax, from its first token on -/
theorem z160s {x1 : Int32} {G : jm_H} (hY : jY G0 G) {K : jm_H → Prop} {R : Option Value → Prop} (E : ∀ {G' : jm_H}, jXa G0 G G' → (∀ {t L : Nat}, jXl G0 G t L G' → jm_I G 183 1 = 2 ∧ jm_I G 183 2 = 2) → jz K R (fun Q => jm_w S 10 160 108 [.ref 180, .int x1] [] G' Q)) : jz K R (fun Q => jm_w S 10 160 45 [.ref 180, .int x1] [] G Q) := by
  have F : ∀ {G' : jm_H}, jXf G0 G G' → jz K R (fun Q => jm_w S 10 160 86 [.ref 180, .int x1] [] G' Q) := by
    intro G' hF
    exact jz_eq (fun _ => u160_86 (st_t180 (jX_st hF.1))) (jz_if (fun _ => E (Or.inl hF) (fun h => absurd h.1.2.2.2.1 (jXf_0 hF))) (fun c => absurd (jXf_0 hF) c))
  have t0' := st_t180 (jY_st hY)
  refine jz_eq (fun _ => u160_45 t0') ?_
  have hX0 : jX G0 G (jm_pI (jm_pI (jm_pI G 180 11 0) 180 12 0) 180 14 0) := ⟨jY_pI (jY_pI (jY_pI hY (by omega)) (by omega)) (by omega), jf_fr_trans (jf_fr_pI (Or.inl rfl)) (jf_fr_trans (jf_fr_pI (Or.inl rfl)) (jf_fr_pI (Or.inl rfl))), by simp only [jm_I_pI, Nat.reduceEqDiff, true_and, if_false], by rw [jm_I_pI, if_pos ⟨rfl, rfl⟩]; decide⟩
  have k0 : jXt G0 G 0 0 (jm_pI (jm_pI (jm_pI (jm_pI G 180 11 0) 180 12 0) 180 14 0) 180 18 0) := by
    refine ⟨jX_pI hX0 (by decide), ?_, by decide, ?_, ?_⟩
    · simp only [jm_I_pI, Nat.reduceEqDiff, true_and, if_false, if_true]; rfl
    · simp only [jm_I_pI, Nat.reduceEqDiff, true_and, if_false, if_true]
    · simp only [jm_I_pI, Nat.reduceEqDiff, true_and, if_false, if_true]; rfl
  refine x168 k0 (fun ht e0 => ?_) (fun G' hF _ => ?_)
  rotate_left
  · refine jz_eq (fun _ => u160_71 (st_t180 (jX_st hF.1))) (f168 hF ?_)
    refine jz_eq (fun _ => u160_76 (st_t180 (jX_st hF.1))) (f168 hF ?_)
    exact jz_eq (fun _ => u160_81 (st_t180 (jX_st hF.1))) (f168 hF (F hF))
  have k1 := jXt_on k0 ht
  refine jz_eq (fun _ => u160_71 (st_t180 (jX_st k1.1))) (x168 k1 (fun ht e1 => ?_) (fun G' hF _ => ?_))
  rotate_left
  · refine jz_eq (fun _ => u160_76 (st_t180 (jX_st hF.1))) (f168 hF ?_)
    exact jz_eq (fun _ => u160_81 (st_t180 (jX_st hF.1))) (f168 hF (F hF))
  have k2 := jXt_on k1 ht
  refine jz_eq (fun _ => u160_76 (st_t180 (jX_st k2.1))) (x168 k2 (fun ht e2 => ?_) (fun G' hF _ => ?_))
  rotate_left
  · exact jz_eq (fun _ => u160_81 (st_t180 (jX_st hF.1))) (f168 hF (F hF))
  have k3 := jXt_on k2 ht
  refine jz_eq (fun _ => u160_81 (st_t180 (jX_st k3.1))) (x168 k3 (fun ht e3 => ?_) (fun G' hF _ => F hF))
  have k4 := jXt_on k3 ht
  have n0 : ∀ k, k < 4 → jm_I G 183 k ≠ 0 ∧ jm_I G 183 k ≠ 21 := by
    intro k hk
    match k, hk with
    | 0, _ => rw [e0]; decide
    | 1, _ => rw [show jm_I G 183 1 = 2 from e1]; decide
    | 2, _ => rw [show jm_I G 183 2 = 2 from e2]; decide
    | 3, _ => rw [show jm_I G 183 3 = 4 from e3]; decide
  refine l160 (S := S) 401 4 0 (by decide) (by decide) ⟨k4, by decide, ?_, fun k hk => (n0 k hk).1, fun k hk g => absurd g (n0 k hk).2⟩ (fun hA => E hA (fun _ => ⟨e1, e2⟩))
  have := lcnt_run (kd := jm_I G 183) (a := 0) 4 (fun i hi => by rw [Nat.zero_add]; exact (n0 i hi).2)
  exact this
end LINE
