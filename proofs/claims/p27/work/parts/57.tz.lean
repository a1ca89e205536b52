set_option maxRecDepth 20000
/-! trailing zeros, as the library counts them -/
def f76s (k : Int32) (b : Int32) (y : Int32 × Int32) : Int32 × Int32 := if y.1 ≤ b then y else ((Int32.toUInt32 y.1 >>> (Int32.toUInt32 k &&& Int32.toUInt32 31)).toInt32, y.2 + k)
def f76e (y : Int32 × Int32) : Int32 := y.2 + ((Int32.toUInt32 y.1 >>> (Int32.toUInt32 (1 : Int32) &&& Int32.toUInt32 31)).toInt32)
def f76 (x : Int32) : Int32 := if 0 < ((x ^^^ (-1 : Int32)) &&& (x - (1 : Int32))) then f76e (f76s 2 4 (f76s 4 16 (f76s 8 256 (f76s 16 65536 (((x ^^^ (-1 : Int32)) &&& (x - (1 : Int32))), 1))))) else (((x ^^^ (-1 : Int32)) &&& (x - (1 : Int32))) &&& (32 : Int32))
section TZ
variable {S : Option (Nat × (Nat → Int32))} {H : jm_H} {Q : Option Value → jm_H → Prop}
theorem e76_62 (y : Int32 × Int32) : jm_w S 1 76 62 [.int y.1, .int y.2] [] H Q = Q (some (.int (f76e (f76s 2 4 y)))) H := by
  rw [u76_62, u76_67, u76_74, u76_74]
  unfold f76s f76e
  split <;> rfl
theorem e76_49 (y : Int32 × Int32) : jm_w S 1 76 49 [.int y.1, .int y.2] [] H Q = Q (some (.int (f76e (f76s 2 4 (f76s 4 16 y))))) H := by
  rw [u76_49, u76_55]
  by_cases h : y.1 ≤ 16
  · have e : f76s 4 16 y = y := if_pos h
    rw [if_pos h, e]; exact e76_62 y
  · rw [if_neg h]
    have e : f76s 4 16 y = ((Int32.toUInt32 y.1 >>> (Int32.toUInt32 (4 : Int32) &&& Int32.toUInt32 31)).toInt32, y.2 + 4) := if_neg h
    rw [e]; exact e76_62 (_, _)
theorem e76_34 (y : Int32 × Int32) : jm_w S 1 76 34 [.int y.1, .int y.2] [] H Q = Q (some (.int (f76e (f76s 2 4 (f76s 4 16 (f76s 8 256 y)))))) H := by
  rw [u76_34, u76_41]
  by_cases h : y.1 ≤ 256
  · have e : f76s 8 256 y = y := if_pos h
    rw [if_pos h, e]; exact e76_49 y
  · rw [if_neg h]
    have e : f76s 8 256 y = ((Int32.toUInt32 y.1 >>> (Int32.toUInt32 (8 : Int32) &&& Int32.toUInt32 31)).toInt32, y.2 + 8) := if_neg h
    rw [e]; exact e76_49 (_, _)
theorem c76 (x : Int32) : jm_c S 76 [.int x] H Q = Q (some (.int (f76 x))) H := by
  rw [en76, u76_0, u76_12, u76_17, u76_26]
  unfold f76
  by_cases h : 0 < ((x ^^^ (-1 : Int32)) &&& (x - (1 : Int32)))
  · rw [if_pos h, if_pos h]
    by_cases h2 : ((x ^^^ (-1 : Int32)) &&& (x - (1 : Int32))) ≤ 65536
    · have e : f76s 16 65536 (((x ^^^ (-1 : Int32)) &&& (x - (1 : Int32))), 1) = (((x ^^^ (-1 : Int32)) &&& (x - (1 : Int32))), 1) := if_pos h2
      rw [if_pos h2, e]; exact e76_34 (_, 1)
    · have e : f76s 16 65536 (((x ^^^ (-1 : Int32)) &&& (x - (1 : Int32))), 1) = ((Int32.toUInt32 ((x ^^^ (-1 : Int32)) &&& (x - (1 : Int32))) >>> (Int32.toUInt32 (16 : Int32) &&& Int32.toUInt32 31)).toInt32, 1 + 16) := if_neg h2
      rw [if_neg h2, e]; exact e76_34 (_, _)
  · rw [if_neg h, if_neg h]
end TZ
