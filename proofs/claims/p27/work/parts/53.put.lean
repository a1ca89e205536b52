/-! a number put into its object -/
def jf_put (r : Nat) (s : Int32) (m : Int64) (p : Int32) (H : jm_H) : jm_H := jm_pI (jm_pL (jm_pI (jm_pI H r 1 0) r 2 (if m = 0 then 0 else s)) r 3 m) r 4 p
theorem lg_cmp0 (m : Int64) : lg_cmp m 0 = 0 ↔ m = 0 := by
  unfold lg_cmp
  constructor
  · intro h
    split at h
    · cases h
    · split at h
      · assumption
      · cases h
  · rintro rfl
    decide
section PUT
variable {S : Option (Nat × (Nat → Int32))} {H : jm_H} {Q : Option Value → jm_H → Prop}
theorem c48 {r : Nat} {s p : Int32} {m : Int64} (ht : jm_tg H r = 3) : jm_c S 48 [.ref r, .int s, .long m, .int p] H Q = Q none (jf_put r s m p H) := by
  rw [en48, u48_0 ht, u48_12, u48_16, u48_17 (tgI ht) (tgI ht), u48_17 (tgI ht) (tgI ht)]
  by_cases h : m = 0
  · rw [if_neg (by rw [lg_cmp0]; exact fun g => g h)]
    unfold jf_put
    rw [if_pos h]
  · rw [if_pos (by rw [lg_cmp0]; exact h)]
    unfold jf_put
    rw [if_neg h]
end PUT
