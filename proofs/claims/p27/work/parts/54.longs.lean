/-! longs: the less of two, without the sign -/
theorem lI_0' : (0 : Int64) = lI 0 := by decide
section LONGS
variable {S : Option (Nat × (Nat → Int32))} {H : jm_H} {Q : Option Value → jm_H → Prop}
theorem c110 {a b : Int} (ha : l6 a) (hb : l6 b) : jm_c S 110 [.long (lI a), .long (lI b)] H Q = Q (some (.long (lI (min a b)))) H := by
  rw [en110, u110_0, u110_6, u110_10, u110_11, u110_11]
  simp only [lg_cmp_gt, lI_lt hb ha]
  by_cases h : b < a
  · rw [if_pos h, show min a b = b by omega]
  · rw [if_neg h, show min a b = a by omega]
theorem c47 {a : Int} (ha : l6 a) : jm_c S 47 [.long (lI a)] H Q = Q (some (.long (lI a.natAbs))) H := by
  rw [en47, u47_0, u47_6, u47_11, u47_12, u47_12, lI_0']
  simp only [lg_cmp_ge, lI_le (show l6 0 by decide) ha]
  by_cases h : 0 ≤ a
  · rw [if_pos h, show ((a.natAbs : Nat) : Int) = a by omega]
  · rw [if_neg h, lI_neg, show ((a.natAbs : Nat) : Int) = -a by omega]
end LONGS
