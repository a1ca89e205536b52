set_option maxRecDepth 20000
/-! numbers in their objects: a row taken, copied, squeezed, rounded -/
/-- what a number's object says: nil, or sign, whole number, power -/
def jq_is (H : jm_H) (r : Nat) (x : Option (Int × Nat × Int)) : Prop := match x with
  | none => jm_I H r 1 = 1
  | some y => jm_I H r 1 = 0 ∧ jm_I H r 2 = jI y.1 ∧ jm_L H r 3 = lN y.2.1 ∧ jm_I H r 4 = jI y.2.2
theorem jq_is_fr {P : Nat → Prop} {H H1 : jm_H} {r : Nat} {x : Option (Int × Nat × Int)} (f : jf_fr P H H1) (hr : ¬ P r) (h : jq_is H r x) : jq_is H1 r x := by
  have e := f.2.2.2.2 r hr
  unfold jq_is at *
  cases x with
  | none => dsimp only at *; rw [e.1]; exact h
  | some y => dsimp only at *; rw [e.1, e.2]; exact h
theorem jf_tz_dvd : ∀ f m, m / 2 ^ jf_tz f m * 2 ^ jf_tz f m = m
  | 0, m => by
    rw [jf_tz, Nat.pow_zero, Nat.div_one, Nat.mul_one]
  | f + 1, m => by
    rw [jf_tz]
    by_cases h : m % 2 = 0
    · have ih := jf_tz_dvd f (m / 2)
      rw [if_pos h, Nat.pow_succ, Nat.mul_comm (2 ^ jf_tz f (m / 2)) 2, ← Nat.div_div_eq_div_mul, Nat.mul_comm 2, ← Nat.mul_assoc, ih]
      omega
    · rw [if_neg h, Nat.pow_zero, Nat.div_one, Nat.mul_one]
theorem jf_tz_le : ∀ f m, jf_tz f m ≤ f
  | 0, m => Nat.le_refl 0
  | f + 1, m => by
    rw [jf_tz]
    have := jf_tz_le f (m / 2)
    split <;> omega
/-- a row above 0: its odd number, its power -/
def jq_om (N W B : Nat) : Nat := jf_mant N W B / 2 ^ jf_tz 12 (jf_mant N W B)
def jq_op (N W B : Nat) : Int := jf_pow N W B + jf_tz 12 (jf_mant N W B)
def jq_val (N W A : Nat) : Option (Int × Nat × Int) := if A = 0 then some (0, 0, 0) else if A = 2 ^ (N - 1) then none else some (if A < 2 ^ (N - 1) then 1 else -1, jq_om N W (jf_bare N A), jq_op N W (jf_bare N A))
theorem jf_bare_pos {N A : Nat} (h1 : 1 ≤ N) (hA : A < 2 ^ N) (h0 : A ≠ 0) (hn : A ≠ 2 ^ (N - 1)) : 0 < jf_bare N A ∧ jf_bare N A < 2 ^ (N - 1) := by
  have hh := p2_half h1
  unfold jf_bare jf_neg
  by_cases h : A ≤ 2 ^ (N - 1)
  · rw [if_pos h]; omega
  · rw [if_neg h, Nat.mod_eq_of_lt (by omega)]; omega
theorem jf_bare_same {N A : Nat} (h1 : 1 ≤ N) (hA : A < 2 ^ N) (hn : A ≠ 2 ^ (N - 1)) : jf_bare N A = A ↔ A < 2 ^ (N - 1) := by
  have hh := p2_half h1
  unfold jf_bare jf_neg
  by_cases h : A ≤ 2 ^ (N - 1)
  · rw [if_pos h]
    exact ⟨fun _ => by omega, fun _ => rfl⟩
  · rw [if_neg h, Nat.mod_eq_of_lt (by omega)]
    omega
theorem jq_om_pos {N W B : Nat} (h1 : 3 ≤ N) (h2 : N ≤ 12) (hw : W ≤ 2) (hB : 0 < B) (hB2 : B < 2 ^ (N - 1)) : 0 < jq_om N W B ∧ jq_om N W B < 2 ^ (N - 1) ∧ -44 ≤ jq_op N W B ∧ jq_op N W B ≤ 56 ∧ -44 ≤ (Nat.log2 (jq_om N W B) : Int) + jq_op N W B ∧ (Nat.log2 (jq_om N W B) : Int) + jq_op N W B ≤ 44 := by
  obtain ⟨_, hm, hp, hs⟩ := jq_row h1 (by omega) hw hB hB2
  have hd := jf_tz_dvd 12 (jf_mant N W B)
  have hl := jf_tz_le 12 (jf_mant N W B)
  have hle : jq_om N W B ≤ jf_mant N W B := Nat.div_le_self _ _
  have hpos : 0 < jq_om N W B := by
    rcases Nat.eq_zero_or_pos (jq_om N W B) with h | h
    · unfold jq_om at h
      rw [h, Nat.zero_mul] at hd
      omega
    · exact h
  have hlg : Nat.log2 (jq_om N W B) + jf_tz 12 (jf_mant N W B) = Nat.log2 (jf_mant N W B) := lg_div (by
    have h1 : 1 * 2 ^ jf_tz 12 (jf_mant N W B) ≤ jq_om N W B * 2 ^ jf_tz 12 (jf_mant N W B) := Nat.mul_le_mul_right _ hpos
    have hd' : jq_om N W B * 2 ^ jf_tz 12 (jf_mant N W B) = jf_mant N W B := hd
    omega)
  unfold jq_op
  exact ⟨hpos, by omega, by omega, by omega, by omega, by omega⟩
theorem jq_om_v {N W B : Nat} (h1 : 3 ≤ N) (h2 : N ≤ 12) (hw : W ≤ 2) (hB : 0 < B) (hB2 : B < 2 ^ (N - 1)) : jq_v (jq_om N W B) (jq_op N W B) = jq_v (jf_mant N W B) (jf_pow N W B) := by
  obtain ⟨_, hm, hp, hs⟩ := jq_row h1 (by omega) hw hB hB2
  have hd := jf_tz_dvd 12 (jf_mant N W B)
  unfold jq_op
  rw [← jq_v_sh _ _ (by omega)]
  unfold jq_om
  rw [hd]
section TAKE
variable {S : Option (Nat × (Nat → Int32))} {H : jm_H}
theorem c48g {r : Nat} {s p : Int} {m : Nat} (ht : jm_tg H r = 3) (hm : m < 9223372036854775808) : ∃ H1, jq_is H1 r (some (if m = 0 then 0 else s, m, p)) ∧ jf_fr (fun x => x = r) H H1 ∧ ∀ Q, jm_c S 48 [.ref r, .int (jI s), .long (lN m), .int (jI p)] H Q = Q none H1 := by
  refine ⟨_, ?_, ?_, fun Q => c48 ht⟩
  · have z : (lN m = (0 : Int64)) = (m = 0) := propext (lN_eqS (b := 0) hm (by decide))
    unfold jf_put jq_is
    simp only [jm_I_pI, jm_I_pL, jm_L_pI, jm_L_pL, true_and, and_true, Nat.reduceEqDiff, if_true, if_false, and_false, z]
    by_cases h : m = 0
    · rw [if_pos h, if_pos h]; exact jI_0
    · rw [if_neg h, if_neg h]
  · unfold jf_put
    exact jf_fr_trans (jf_fr_trans (jf_fr_trans (jf_fr_pI rfl) (jf_fr_pI rfl)) (jf_fr_pL rfl)) (jf_fr_pI rfl)
theorem c48' {r : Nat} {s p : Int} {m : Nat} (ht : jm_tg H r = 3) (hm : m < 9223372036854775808) (hs : m = 0 → s = 0) : ∃ H1, jq_is H1 r (some (s, m, p)) ∧ jf_fr (fun x => x = r) H H1 ∧ ∀ Q, jm_c S 48 [.ref r, .int (jI s), .long (lN m), .int (jI p)] H Q = Q none H1 := by
  obtain ⟨H1, i1, f1, q1⟩ := c48g (S := S) (H := H) (s := s) (m := m) (p := p) ht hm
  refine ⟨H1, ?_, f1, q1⟩
  by_cases h : m = 0
  · rw [if_pos h] at i1
    rw [hs h]
    exact i1
  · rw [if_neg h] at i1
    exact i1
theorem c70' {r : Nat} (ht : jm_tg H r = 3) : ∃ H1, jq_is H1 r none ∧ jf_fr (fun x => x = r) H H1 ∧ ∀ Q, jm_c S 70 [.ref r] H Q = Q none H1 := by
  refine ⟨_, ?_, ?_, fun Q => c70 ht⟩
  · unfold jf_nil jq_is
    dsimp only
    rw [jm_I_pI, if_pos ⟨rfl, rfl⟩]
  · unfold jf_nil jf_put
    exact jf_fr_trans (jf_fr_trans (jf_fr_trans (jf_fr_trans (jf_fr_pI rfl) (jf_fr_pI rfl)) (jf_fr_pL rfl)) (jf_fr_pI rfl)) (jf_fr_pI rfl)
/-- the parts of a row, as the class keeps them -/
def jq_pt (H : jm_H) (q N W B : Nat) : Prop := jm_I H q 0 = nI (jf_run N B) ∧ jm_I H q 1 = jI (jf_reg N B) ∧ jm_I H q 2 = nI (jf_exp N W B) ∧ jm_I H q 3 = nI (jf_fb N W B) ∧ jm_I H q 4 = nI (jf_frac N W B)
theorem jf_fb_le (N W A : Nat) : jf_fb N W A ≤ N - 2 := by
  have := jf_left_le N A
  unfold jf_fb
  omega
theorem jf_exp_le {N W A : Nat} (hA : A < 4096) (hw : W ≤ 2) : jf_exp N W A < 16384 := by
  unfold jf_exp
  have h := Nat.mod_le A (2 ^ jf_left N A)
  split
  · have : 2 ^ (W - jf_left N A) ≤ 4 := p2_le (m := 2) (by omega)
    have := Nat.mul_le_mul h this
    omega
  · have := Nat.div_le_self (A % 2 ^ jf_left N A) (2 ^ (jf_left N A - W))
    omega
theorem c68 {r q N W A : Nat} (ht : jm_tg H r = 3) (hr : jm_R H r 0 = q) (hq : q ≠ 0) (hne : q ≠ r) (htq : jm_tg H q = 5) (h1 : 3 ≤ N) (h2 : N ≤ 12) (hw : W ≤ 2) (hA : A < 2 ^ N) : ∃ H1, jq_is H1 r (jq_val N W A) ∧ (A ≠ 0 → A ≠ 2 ^ (N - 1) → jq_pt H1 q N W (jf_bare N A)) ∧ jf_fr (fun x => x = r ∨ x = q) H H1 ∧ ∀ Q, jm_c S 68 [.ref r, .int (nI N), .int (nI W), .int (nI A)] H Q = Q none H1 := by
  have hp := p2_12 h2
  have hh := p2_half (show 1 ≤ N by omega)
  by_cases h0 : A = 0
  · subst h0
    obtain ⟨H1, i1, f1, q1⟩ := c48' (S := S) (H := H) (s := 0) (m := 0) (p := 0) ht (by decide) (fun _ => rfl)
    refine ⟨H1, ?_, fun h => absurd rfl h, jf_fr_mono f1 (fun x hx => Or.inl hx), fun Q => ?_⟩
    · unfold jq_val
      rw [if_pos rfl]
      exact i1
    · rw [en68, u68_0, if_neg (by decide), u68_4 ht]
      show jm_c S 48 [.ref r, .int (jI 0), .long (lN 0), .int (jI 0)] H _ = _
      rw [q1]
      simp only [Option.toList_none, List.nil_append]
      rw [u68_11]
  · have z : ¬ nI A = (0 : Int32) := fun h => h0 ((nI_eqI (b := 0) (by omega) (by decide)).mp h)
    by_cases hn : A = 2 ^ (N - 1)
    · subst hn
      obtain ⟨H1, i1, f1, q1⟩ := c70' (S := S) (H := H) ht
      refine ⟨H1, ?_, fun _ h => absurd rfl h, jf_fr_mono f1 (fun x hx => Or.inl hx), fun Q => ?_⟩
      · unfold jq_val
        rw [if_neg h0, if_pos rfl]
        exact i1
      · rw [en68, u68_0, if_pos z, u68_12, c69 (by omega) (by omega) (by omega), if_pos rfl]
        simp only [Option.toList_some, List.append_nil]
        rw [u68_17, if_neg i1_0, u68_20 ht, q1]
        simp only [Option.toList_none, List.nil_append]
        rw [u68_24]
    · obtain ⟨b1, b2⟩ := jf_bare_pos (show 1 ≤ N by omega) hA h0 hn
      have bs := jf_bare_same (show 1 ≤ N by omega) hA hn
      obtain ⟨_, hm, hpw, hs⟩ := jq_row h1 (by omega) hw b1 b2
      have ho := jq_om_pos h1 h2 hw b1 b2
      have hfb := jf_fb_le N W (jf_bare N A)
      have hex := jf_exp_le (N := N) (W := W) (A := jf_bare N A) (by omega) hw
      have hl := jf_tz_le 12 (jf_mant N W (jf_bare N A))
      have hfr : jf_frac N W (jf_bare N A) < 2 ^ jf_fb N W (jf_bare N A) := Nat.mod_lt _ (p2_pos _)
      have hpf : 2 ^ jf_fb N W (jf_bare N A) ≤ 1024 := p2_le (m := 10) (by omega)
      -- the parts are taken
      let G : jm_H := jm_pI (jm_pI (jm_pI (jm_pI (jm_pI H q 0 (nI (jf_run N (jf_bare N A)))) q 1 (jI (jf_reg N (jf_bare N A)))) q 2 (nI (jf_exp N W (jf_bare N A)))) q 3 (nI (jf_fb N W (jf_bare N A)))) q 4 (nI (jf_frac N W (jf_bare N A)))
      have fG : jf_fr (fun x => x = q) H G := jf_fr_trans (jf_fr_trans (jf_fr_trans (jf_fr_trans (jf_fr_pI rfl) (jf_fr_pI rfl)) (jf_fr_pI rfl)) (jf_fr_pI rfl)) (jf_fr_pI rfl)
      have pG : jq_pt G q N W (jf_bare N A) := by
        unfold jq_pt
        show jm_I (jm_pI (jm_pI (jm_pI (jm_pI (jm_pI H q 0 _) q 1 _) q 2 _) q 3 _) q 4 _) q 0 = _ ∧ _
        simp only [G, jm_I_pI, true_and, Nat.reduceEqDiff, if_true, if_false, and_false]
      have tG : jm_tg G r = 3 := ht
      have rG : jm_R G r 0 = q := hr
      have tqG : jm_tg G q = 5 := htq
      obtain ⟨H1, i1, f1, q1⟩ := c48' (S := S) (H := G) (s := if A < 2 ^ (N - 1) then 1 else -1) (m := jq_om N W (jf_bare N A)) (p := jq_op N W (jf_bare N A)) tG (by omega) (fun h => by omega)
      refine ⟨H1, ?_, fun _ _ => ?_, jf_fr_trans (jf_fr_mono fG (fun x hx => Or.inr hx)) (jf_fr_mono f1 (fun x hx => Or.inl hx)), fun Q => ?_⟩
      · unfold jq_val
        rw [if_neg h0, if_neg hn]
        exact i1
      · have e := (f1.2.2.2.2 q hne).1
        unfold jq_pt at *
        rw [e]
        exact pG
      · have efull : ((1 : Int64) <<< (Int32.toInt64 (nI (jf_fb N W (jf_bare N A))) &&& 63)) + Int32.toInt64 (nI (jf_frac N W (jf_bare N A))) = lN (jf_mant N W (jf_bare N A)) := by
          rw [lN_p2 (by omega), nI_l (by omega), lN_add]
          rfl
        have esc : (jI (jf_reg N (jf_bare N A)) <<< (nI W &&& 31)) + nI (jf_exp N W (jf_bare N A)) = jI (jf_reg N (jf_bare N A) * (2 ^ W : Nat) + jf_exp N W (jf_bare N A)) := by
          rw [jI_n W, jI_shl _ (by omega), jI_n, jI_add]
        have epw : jI (jf_reg N (jf_bare N A) * (2 ^ W : Nat) + jf_exp N W (jf_bare N A)) - nI (jf_fb N W (jf_bare N A)) + nI (jf_tz 12 (jf_mant N W (jf_bare N A))) = jI (jq_op N W (jf_bare N A)) := by
          rw [jI_n, jI_sub, jI_n, jI_add]
          rfl
        have esh : lN (jf_mant N W (jf_bare N A)) >>> (Int32.toInt64 (nI (jf_tz 12 (jf_mant N W (jf_bare N A)))) &&& 63) = lN (jq_om N W (jf_bare N A)) := by
          rw [lN_shr (by omega) (by omega)]
          rfl
        rw [en68, u68_0, if_pos z, u68_12, c69 (by omega) (by omega) (by omega), if_neg hn]
        simp only [Option.toList_some, List.append_nil]
        rw [u68_17, if_pos rfl, u68_25, c71 (by omega) h2 hA]
        simp only [Option.toList_some, List.append_nil]
        rw [u68_30 ht (by rw [hr]; exact hq) (by rw [hr]; exact htq), hr, c72 htq h1 h2 hw (by omega)]
        simp only [Option.toList_none, List.nil_append]
        show jm_w S 3 68 43 [.ref r, .int (nI N), .int (nI W), .int (nI A), .int (nI (jf_bare N A)), .null, .null, .null, .null] [] G Q = _
        rw [u68_43 tG (by rw [rG]; exact hq) (by rw [rG]; exact tqG), rG, pG.2.1, pG.2.2.1, pG.2.2.2.1, pG.2.2.2.2, efull, esc, lI_n, c75 hm.1 (by omega)]
        simp only [Option.toList_some, List.cons_append, List.nil_append]
        rw [u68_87]
        have e101 : ∀ s : Int, s = (if A < 2 ^ (N - 1) then 1 else -1) → jm_w S 3 68 101 [.ref r, .int (nI N), .int (nI W), .int (nI A), .int (nI (jf_bare N A)), .int (jI (jf_reg N (jf_bare N A) * (2 ^ W : Nat) + jf_exp N W (jf_bare N A))), .long (lI (jf_mant N W (jf_bare N A))), .null, .int (nI (jf_tz 12 (jf_mant N W (jf_bare N A))))] [.int (jI s), .ref r] G Q = Q none H1 := by
          rintro s rfl
          rw [u68_101 tG (by rw [rG]; exact hq) (by rw [rG]; exact tqG) tG, rG, pG.2.2.2.1, epw, ← lI_n, esh, q1]
          simp only [Option.toList_none, List.nil_append]
          rw [u68_122]
        by_cases hb : A < 2 ^ (N - 1)
        · rw [if_neg (by rw [nI_eqI (by omega) (by omega)]; exact fun g => g (bs.mpr hb)), u68_96]
          exact e101 1 (by rw [if_pos hb])
        · rw [if_pos (by rw [nI_eqI (by omega) (by omega)]; exact fun g => hb (bs.mp g)), u68_100]
          exact e101 (-1) (by rw [if_neg hb])
end TAKE
