set_option maxRecDepth 20000
/-! pairs, whatever is remembered: it comes to an end on both sides -/
section PAIRS2
variable {S : Option (Nat × (Nat → Int32))} {c : Nat} {H0 : jm_H}
theorem z143 {x1 x2 x3 : Int32} {G : jm_H} (hG : jK H0 G) : jz (jK H0) jz_I (fun Q => jm_c S 143 [.ref 2, .int x1, .int x2, .int x3] G Q) := by
  have st := hG.1.1
  have r := st_r2_12 st
  have h17 : jz (jK H0) jz_I (fun Q => jm_w S 8 143 17 [.ref 2, .int x1, .int x2, .int x3, .null] [] G Q) := jz_eq (fun _ => u143_17) (jz_end hG ⟨_, rfl⟩)
  refine jz_eq (fun _ => en143.trans (u143_0.trans (c93 _ _))) ?_
  by_cases hs : jr_sz x1 x2
  · rw [if_pos hs]
    obtain ⟨N, W, n1, n2, hw, rfl, rfl⟩ := jr_sz_of hs
    refine jz_eq (fun _ => u143_5) (jz_if (fun g => absurd g i1_0) (fun _ => ?_))
    refine jz_eq (fun _ => u143_8) (jz_if (fun _ => h17) (fun k0 => ?_))
    refine jz_eq (fun _ => u143_12) (jz_if (fun k2 => ?_) (fun _ => h17))
    obtain ⟨K, hK, rfl⟩ := ji_nn (k := 3) (x := x3) (ti_lt0 k0) (by have := Int32.le_iff_toInt_le.mp k2; rw [show (2 : Int32).toInt = 2 from by decide] at this; omega)
    refine jz_eq (fun _ => u143_19) (jz_if (fun n6 => ?_) (fun _ => jz_eq (fun _ => u143_25) (jz_end hG ⟨_, rfl⟩)))
    have h2 : N ≤ 6 := (nI_leI (b := 6) (by omega) (by decide)).mp n6
    have ei : ((((nI N - (3 : Int32)) * (3 : Int32)) + nI W) * (3 : Int32)) + nI K = nI (((N - 3) * 3 + W) * 3 + K) := by
      rw [show (3 : Int32) = nI 3 from rfl, pk_sub n1, pk_mul, nI_addN, pk_mul, nI_addN]
    have hidx : ((N - 3) * 3 + W) * 3 + K < 36 := by omega
    have hin : ¬ (nI (((N - 3) * 3 + W) * 3 + K) < 0 ∨ 36 ≤ (nI (((N - 3) * 3 + W) * 3 + K)).toNatClampNeg) := nI_inK hidx (by decide)
    refine jz_eq (fun _ => u143_28 (st_t2 st) (by rw [r]; decide) (by rw [r]; decide) (by rw [r, st_t176 st]; decide)) ?_
    rw [r, st_l176 st, ei]
    refine jz_if (fun _ => ?_) (fun _ => jz_eq (fun _ => u143_51) (jz_end hG ⟨_, rfl⟩))
    generalize ((N - 3) * 3 + W) * 3 + K = idx at *
    have h95 : ∀ {G' : jm_H}, jK H0 G' → jz (jK H0) jz_I (fun Q => jm_w S 8 143 95 [.ref 2, .int (nI N), .int (nI W), .int (nI K), .int (nI idx)] [] G' Q) := by
      intro G' h
      have st := h.1.1
      have r := st_r2_12 st
      exact jz_eq (fun _ => u143_95 (st_t2 st) (by rw [r]; decide) (by rw [r, st_l176 st]; exact hin) (by rw [r]; decide) (by rw [r]; exact st_t176 st)) (jz_end h ⟨_, rfl⟩)
    have h91 : ∀ {k : Nat}, k < 4 → jz (jK H0) jz_I (fun Q => jm_w S 8 143 91 [.ref 2, .int (nI N), .int (nI W), .int (nI K), .int (nI idx)] [.int (nI k), .int (nI W), .int (nI N), .ref 2, .int (nI idx), .ref 176] G Q) := by
      intro k hk
      obtain ⟨G1, f1, q1⟩ := c144 (K := k) st n1 h2 hw hk
      have h1 : jK H0 G1 := jK_j hG f1 (fun r hr => by unfold jq_RR at hr; omega)
      have st1 := h1.1.1
      refine jz_eq (fun _ => u143_91 (st_t2 st)) (jz_eq (fun _ => jm_c_all q1 _) ?_)
      refine jz_eq (fun _ => u143_94 (by rw [st_l176 st1]; exact hin) (st_t176 st1)) (h95 (jK_j (P := fun q => q = 176) h1 (jf_fr_pI rfl) (fun r hr => by omega)))
    refine jz_eq (fun _ => u143_53 (st_t2 st) (by rw [r]; decide) (by rw [r, st_l176 st]; exact hin) (by rw [r]; decide) (by rw [r]; exact st_t176 st)) (jz_if (fun _ => h95 hG) (fun _ => ?_))
    refine jz_eq (fun _ => u143_64 (st_t2 st) (by rw [r]; decide)) ?_
    rw [r]
    refine jz_if (fun _ => ?_) (fun _ => jz_eq (fun _ => u143_77) (h91 (k := 0) (by decide)))
    exact jz_eq (fun _ => u143_81) (jz_if (fun _ => jz_eq (fun _ => u143_90) (h91 (k := 3) (by decide))) (fun _ => jz_eq (fun _ => u143_86) (h91 (k := 2) (by decide))))
  · rw [if_neg hs]
    exact jz_eq (fun _ => u143_5) (jz_if (fun _ => h17) (fun g => absurd rfl g))
end PAIRS2
