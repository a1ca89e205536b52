set_option maxRecDepth 20000
/-! pairs: what is remembered is right, and so is the answer -/
theorem jv_176 {k : Nat} {v : Int32} (h : v = -1 ∨ v = nI (jq_pr k)) : jv 176 k v := by
  refine ⟨fun g => ?_, fun g => ?_, fun g => ?_, fun g => ?_, fun g => ?_, fun g => ?_, fun g => ?_, fun _ _ => h⟩ <;> exfalso <;> revert g <;> (try unfold js_S) <;> (try unfold js_U) <;> omega
theorem pr_idx {N W K : Nat} (n1 : 3 ≤ N) (hw : W ≤ 2) (hK : K < 3) : jq_pr (((N - 3) * 3 + W) * 3 + K) = jq_exs N W (if K = 0 then 0 else K + 1) := by
  unfold jq_pr
  rw [show (((N - 3) * 3 + W) * 3 + K) / 9 + 3 = N by omega, show (((N - 3) * 3 + W) * 3 + K) / 3 % 3 = W by omega, show (((N - 3) * 3 + W) * 3 + K) % 3 = K by omega]
section PAIRS2
variable {S : Option (Nat × (Nat → Int32))} {H0 : jm_H}
theorem y143 {N W K : Nat} {G : jm_H} (n1 : 3 ≤ N) (h2 : N ≤ 6) (hw : W ≤ 2) (hK : K < 3) (hG : jK H0 G) : jz (jK H0) (fun v => v = some (.int (nI (jq_exs N W (if K = 0 then 0 else K + 1))))) (fun Q => jm_c S 143 [.ref 2, .int (nI N), .int (nI W), .int (nI K)] G Q) := by
  have st := hG.1.1
  have r := st_r2_12 st
  have hs : jr_sz (nI N) (nI W) := (jr_row_nI n1 (show N ≤ 12 by omega) hw (p2_pos N)).1
  have k0 : ¬ nI K < 0 := nI_geK (by omega)
  have k2 : nI K ≤ (2 : Int32) := (nI_leI (b := 2) (by omega) (by decide)).mpr (by omega)
  have n6 : nI N ≤ (6 : Int32) := (nI_leI (b := 6) (by omega) (by decide)).mpr h2
  have ei : ((((nI N - (3 : Int32)) * (3 : Int32)) + nI W) * (3 : Int32)) + nI K = nI (((N - 3) * 3 + W) * 3 + K) := by
    rw [show (3 : Int32) = nI 3 from rfl, pk_sub n1, pk_mul, nI_addN, pk_mul, nI_addN]
  have hidx : ((N - 3) * 3 + W) * 3 + K < 36 := by omega
  have hpr := pr_idx n1 hw hK
  have hlt : nI (((N - 3) * 3 + W) * 3 + K) < Int32.ofNat 36 := (nI_ltI (b := 36) (by omega) (by decide)).mpr hidx
  refine jz_eq (fun _ => en143.trans (u143_0.trans (c93 _ _))) ?_
  rw [if_pos hs]
  refine jz_eq (fun _ => u143_5) (jz_if (fun g => absurd g i1_0) (fun _ => ?_))
  refine jz_eq (fun _ => u143_8) (jz_if (fun g => absurd g k0) (fun _ => ?_))
  refine jz_eq (fun _ => u143_12) (jz_if (fun _ => ?_) (fun g => absurd k2 g))
  refine jz_eq (fun _ => u143_19) (jz_if (fun _ => ?_) (fun g => absurd n6 g))
  refine jz_eq (fun _ => u143_28 (st_t2 st) (by rw [r]; decide) (by rw [r]; decide) (by rw [r, st_t176 st]; decide)) ?_
  rw [r, st_l176 st, ei]
  refine jz_if (fun _ => ?_) (fun g => absurd hlt g)
  rw [← hpr]
  generalize ((N - 3) * 3 + W) * 3 + K = idx at *
  have hin : ¬ (nI idx < 0 ∨ 36 ≤ (nI idx).toNatClampNeg) := nI_inK hidx (by decide)
  have hm := (hG.1.2.2 176 idx).2.2.2.2.2.2.2 rfl hidx
  have h95 : ∀ {G' : jm_H}, jK H0 G' → jm_I G' 176 idx = nI (jq_pr idx) → jz (jK H0) (fun v => v = some (.int (nI (jq_pr idx)))) (fun Q => jm_w S 8 143 95 [.ref 2, .int (nI N), .int (nI W), .int (nI K), .int (nI idx)] [] G' Q) := by
    intro G' h e
    have st := h.1.1
    have r := st_r2_12 st
    refine jz_eq (fun _ => u143_95 (st_t2 st) (by rw [r]; decide) (by rw [r, st_l176 st]; exact hin) (by rw [r]; decide) (by rw [r]; exact st_t176 st)) ?_
    rw [r, nI_cl (by omega), e]
    exact jz_end h rfl
  have h91 : ∀ {k : Nat}, k < 4 → k = (if K = 0 then 0 else K + 1) → jz (jK H0) (fun v => v = some (.int (nI (jq_pr idx)))) (fun Q => jm_w S 8 143 91 [.ref 2, .int (nI N), .int (nI W), .int (nI K), .int (nI idx)] [.int (nI k), .int (nI W), .int (nI N), .ref 2, .int (nI idx), .ref 176] G Q) := by
    intro k hk ek
    obtain ⟨G1, f1, q1⟩ := c144 (K := k) st n1 h2 hw hk
    rw [ek, ← hpr] at q1
    rw [ek]
    have h1 : jK H0 G1 := jK_j hG f1 (fun r hr => by unfold jq_RR at hr; omega)
    have st1 := h1.1.1
    refine jz_eq (fun _ => u143_91 (st_t2 st)) (jz_eq (fun _ => jm_c_all q1 _) ?_)
    refine jz_eq (fun _ => u143_94 (by rw [st_l176 st1]; exact hin) (st_t176 st1)) ?_
    rw [nI_cl (by omega)]
    exact h95 (jK_pI h1 (by decide) (jv_176 (Or.inr rfl))) (by rw [jm_I_pI, if_pos ⟨rfl, rfl⟩])
  refine jz_eq (fun _ => u143_53 (st_t2 st) (by rw [r]; decide) (by rw [r, st_l176 st]; exact hin) (by rw [r]; decide) (by rw [r]; exact st_t176 st)) ?_
  rw [r, nI_cl (by omega)]
  refine jz_if (fun g => h95 hG (hm.resolve_left g)) (fun _ => ?_)
  refine jz_eq (fun _ => u143_64 (st_t2 st) (by rw [r]; decide)) ?_
  rw [r]
  have hK3 : K = 0 ∨ K = 1 ∨ K = 2 := by omega
  rcases hK3 with rfl | rfl | rfl
  · exact jz_if (fun g => absurd rfl g) (fun _ => jz_eq (fun _ => u143_77) (h91 (k := 0) (by decide) (by decide)))
  · refine jz_if (fun _ => ?_) (fun g => absurd (show ¬ nI 1 = 0 by decide) g)
    exact jz_eq (fun _ => u143_81) (jz_if (fun g => absurd rfl g) (fun _ => jz_eq (fun _ => u143_86) (h91 (k := 2) (by decide) (by decide))))
  · refine jz_if (fun _ => ?_) (fun g => absurd (show ¬ nI 2 = 0 by decide) g)
    exact jz_eq (fun _ => u143_81) (jz_if (fun _ => jz_eq (fun _ => u143_90) (h91 (k := 3) (by decide) (by decide))) (fun g => absurd (show ¬ nI 2 = 1 by decide) g))
theorem pairs_both (n w k : Int32) : ∃ ans : Int32, (∀ {H0 G : jm_H}, jK H0 G → jz (jK H0) (fun v => v = some (.int ans)) (fun Q => jm_c S 143 [.ref 2, .int n, .int w, .int k] G Q)) ∧ jq_M 248 [.int n, .int w, .int k] (.int ans) := by
  by_cases hs : jr_sz n w
  · by_cases hk : 0 ≤ k.toInt ∧ k.toInt ≤ 2
    · by_cases h6 : n.toInt ≤ 6
      · obtain ⟨N, W, h1, h2, hw, rfl, rfl⟩ := jr_sz_of hs
        obtain ⟨K, hK, rfl⟩ := ji_nn (x := k) (k := 3) hk.1 (by omega)
        have hN : N ≤ 6 := by
          rw [nI_toInt (by omega)] at h6
          omega
        exact ⟨_, y143 h1 hN hw hK, M248 h1 hN hw hK⟩
      · refine ⟨-2, fun {H0 G} hG => ?_, jq_M0 fun H st Q => ?_⟩
        · refine jz_eq (fun _ => en143.trans (u143_0.trans (c93 _ _))) ?_
          rw [if_pos hs]
          refine jz_eq (fun _ => u143_5) (jz_if (fun g => absurd g i1_0) (fun _ => ?_))
          refine jz_eq (fun _ => u143_8) (jz_if (fun g => absurd (Int32.lt_iff_toInt_lt.mp g) (by rw [i32_0]; omega)) (fun _ => ?_))
          refine jz_eq (fun _ => u143_12) (jz_if (fun _ => ?_) (fun g => absurd (Int32.le_iff_toInt_le.mpr (by rw [i32_2]; omega)) g))
          exact jz_eq (fun _ => u143_19) (jz_if (fun g => absurd (Int32.le_iff_toInt_le.mp g) (by rw [i32_6]; omega)) (fun _ => jz_eq (fun _ => u143_25) (jz_end hG rfl)))
        · rw [en248, u248_0, c217, if_pos hs]
          simp only [Option.toList_some, List.append_nil]
          rw [u248_5, if_neg i1_0, u248_8, c176, i32_0, i32_2, if_pos hk]
          simp only [Option.toList_some, List.append_nil]
          rw [u248_14, if_pos i1_0, u248_19, u248_25]
          simp only [Int32.le_iff_toInt_le, i32_6]
          rw [if_neg h6]
    · refine ⟨-1, fun {H0 G} hG => ?_, jq_M0 fun H st Q => ?_⟩
      · have h17 : jz (jK H0) (fun v => v = some (.int (-1))) (fun Q => jm_w S 8 143 17 [.ref 2, .int n, .int w, .int k, .null] [] G Q) := jz_eq (fun _ => u143_17) (jz_end hG rfl)
        refine jz_eq (fun _ => en143.trans (u143_0.trans (c93 _ _))) ?_
        rw [if_pos hs]
        refine jz_eq (fun _ => u143_5) (jz_if (fun g => absurd g i1_0) (fun _ => ?_))
        refine jz_eq (fun _ => u143_8) (jz_if (fun _ => h17) (fun k0 => ?_))
        refine jz_eq (fun _ => u143_12) (jz_if (fun k2 => ?_) (fun _ => h17))
        have a := ti_lt0 k0
        have b := Int32.le_iff_toInt_le.mp k2
        rw [i32_2] at b
        exact absurd ⟨a, b⟩ hk
      · rw [en248, u248_0, c217, if_pos hs]
        simp only [Option.toList_some, List.append_nil]
        rw [u248_5, if_neg i1_0, u248_8, c176, i32_0, i32_2, if_neg hk]
        simp only [Option.toList_some, List.append_nil]
        rw [u248_14, if_neg (by decide), u248_17]
  · refine ⟨-1, fun {H0 G} hG => ?_, jq_M0 fun H st Q => ?_⟩
    · refine jz_eq (fun _ => en143.trans (u143_0.trans (c93 _ _))) ?_
      rw [if_neg hs]
      exact jz_eq (fun _ => u143_5) (jz_if (fun _ => jz_eq (fun _ => u143_17) (jz_end hG rfl)) (fun g => absurd rfl g))
    · rw [en248, u248_0, c217, if_neg hs]
      simp only [Option.toList_some, List.append_nil]
      rw [u248_5, if_pos rfl, u248_17]
end PAIRS2
