/-! a number's object told that it is nil; a row that is 0 or nil -/
def jf_nil (r : Nat) (H : jm_H) : jm_H := jm_pI (jf_put r 0 0 0 H) r 1 1
theorem tg_put {H : jm_H} {r q t : Nat} {s p : Int32} {m : Int64} (h : jm_tg H q = t) : jm_tg (jf_put r s m p H) q = t := h
section NIL
variable {S : Option (Nat × (Nat → Int32))} {H : jm_H} {Q : Option Value → jm_H → Prop}
theorem c70 {r : Nat} (ht : jm_tg H r = 3) : jm_c S 70 [.ref r] H Q = Q none (jf_nil r H) := by
  rw [en70, u70_0 ht, c48 ht]
  simp only [Option.toList_none, List.nil_append]
  rw [u70_7 (tg_put ht)]
  rfl
theorem c68_0 {r : Nat} {n w : Int32} (ht : jm_tg H r = 3) : jm_c S 68 [.ref r, .int n, .int w, .int 0] H Q = Q none (jf_put r 0 0 0 H) := by
  rw [en68, u68_0, if_neg (by decide), u68_4 ht, c48 ht]
  simp only [Option.toList_none, List.nil_append]
  rw [u68_11]
theorem c68_nil {r N : Nat} {w : Int32} (ht : jm_tg H r = 3) (h1 : 1 ≤ N) (h2 : N ≤ 12) : jm_c S 68 [.ref r, .int (nI N), .int w, .int (nI (2 ^ (N - 1)))] H Q = Q none (jf_nil r H) := by
  have hp := p2_12 h2
  have hh := p2_half h1
  have hq := p2_pos (N - 1)
  have z : ¬ nI (2 ^ (N - 1)) = (0 : Int32) := by
    have := nI_eqI (a := 2 ^ (N - 1)) (b := 0) (by omega) (by decide)
    intro h
    have := this.mp h
    omega
  rw [en68, u68_0, if_pos z, u68_12, c69 h1 (by omega) (by omega), if_pos rfl]
  simp only [Option.toList_some, List.append_nil]
  rw [u68_17, if_neg i1_0, u68_20 ht, c70 ht]
  simp only [Option.toList_none, List.nil_append]
  rw [u68_24]
end NIL
