/-! a row taken apart: its run -/
/-- of the lowest m bits of A, from the top: how many are left where the first unlike c stands, it counted -/
def jf_at (A c : Nat) : Nat → Nat
  | 0 => 0
  | m + 1 => if A / 2 ^ m % 2 = c then jf_at A c m else m + 1
theorem jf_at_le (A c : Nat) : ∀ m, jf_at A c m ≤ m
  | 0 => Nat.le_refl 0
  | m + 1 => by
    unfold jf_at
    have := jf_at_le A c m
    split <;> omega
section ROWM
variable {S : Option (Nat × (Nat → Int32))} {H : jm_H} {Q : Option Value → jm_H → Prop}
theorem nI_bit {A m : Nat} (hA : A < 2147483648) (hm : m < 32) : (nI A >>> (nI m &&& 31)) &&& (1 : Int32) = nI (A / 2 ^ m % 2) := by rw [nI_shr hA hm, nI_and1]
theorem nI_succK (b : Nat) : nI b + (1 : Int32) = nI (b + 1) := by rw [jI_n, jI_1, jI_add, jI_n, Int.natCast_add]; rfl
theorem s73 {x0 : Int32} {A c : Nat} (hA : A < 2147483648) (hc : c < 2147483648) : ∀ (m b : Nat), m ≤ 31 → jm_w S 1 73 15 [.int x0, .int (nI A), .int (nI b), .int (nI c), .int (jI ((m : Int) - 1))] [] H Q = Q (some (.int (nI (b + (m - jf_at A c m))))) H
  | 0, b, _ => by
    rw [u73_15, if_pos (by decide), u73_39]
    rfl
  | m + 1, b, hm => by
    have e : jI (((m + 1 : Nat) : Int) - 1) = nI m := by rw [jI_n]; congr 1; omega
    have hl := jf_at_le A c m
    rw [e, u73_15, if_neg (nI_geK (by omega)), u73_20, nI_bit hA (by omega)]
    have h2 : A / 2 ^ m % 2 < 2 := Nat.mod_lt _ (by decide)
    by_cases h : A / 2 ^ m % 2 = c
    · have ej : jf_at A c (m + 1) = jf_at A c m := by rw [jf_at, if_pos h]
      rw [if_neg (by rw [h]; exact fun h => h rfl), u73_30, nI_succK, show nI m + (-1 : Int32) = jI ((m : Int) - 1) by rw [jI_n, jI_m1, jI_add]; rfl, s73 hA hc m (b + 1) (by omega), ej, show b + 1 + (m - jf_at A c m) = b + (m + 1 - jf_at A c m) by omega]
    · have ej : jf_at A c (m + 1) = m + 1 := by rw [jf_at, if_neg h]
      rw [if_pos (by rw [nI_eqI (by omega) hc]; exact h), u73_39, ej, Nat.sub_self, Nat.add_zero]
/-- the bit behind the sign -/
def jf_top (N A : Nat) : Nat := A / 2 ^ (N - 2) % 2
theorem jf_top2 (N A : Nat) : jf_top N A < 2 := Nat.mod_lt _ (by decide)
def jf_run (N A : Nat) : Nat := N - 1 - jf_at A (jf_top N A) (N - 1)
theorem c73 {N A : Nat} (h1 : 2 ≤ N) (h2 : N ≤ 31) (hA : A < 2147483648) : jm_c S 73 [.int (nI N), .int (nI A)] H Q = Q (some (.int (nI (jf_run N A)))) H := by
  have e : nI N - (2 : Int32) = nI (N - 2) := by rw [nI_2L, pk_sub h1]
  have e2 : nI (N - 2) = jI (((N - 1 : Nat) : Int) - 1) := by rw [jI_n]; congr 1; omega
  have hs := s73 (S := S) (H := H) (Q := Q) (x0 := nI N) hA (show jf_top N A < 2147483648 by have := jf_top2 N A; omega) (N - 1) 0 (by omega)
  rw [en73, u73_0, e, nI_bit hA (by omega)]
  rw [← e2, Nat.zero_add] at hs
  exact hs
theorem c195 {A k : Nat} (hA : A < 2147483648) (hk : k < 32) : jm_c S 195 [.int (nI A), .int (nI k)] H Q = Q (some (.int (nI (A / 2 ^ k % 2)))) H := by
  rw [en195, u195_0, nI_bit hA hk, u195_9, u195_13, u195_14 (Or.inr rfl), u195_14 (Or.inl rfl)]
  have h2 : A / 2 ^ k % 2 < 2 := Nat.mod_lt _ (by decide)
  by_cases h : A / 2 ^ k % 2 = 1
  · rw [h, if_neg (by decide)]; rfl
  · have h0 : A / 2 ^ k % 2 = 0 := by omega
    rw [h0, if_pos (by decide)]; rfl
theorem s193 {r0 : Nat} {x1 x2 x3 : Int32} {A c : Nat} (hA : A < 2147483648) (hc : c < 2147483648) : ∀ (m : Nat), m ≤ 31 → jm_w S 2 193 34 [.ref r0, .int x1, .int x2, .int x3, .int (nI A), .int (nI c), .int (jI ((m : Int) - 1)), .null, .null] [] H Q = jm_w S 2 193 57 [.ref r0, .int x1, .int x2, .int x3, .int (nI A), .int (nI c), .int (jI ((jf_at A c m : Int) - 1)), .null, .null] [] H Q
  | 0, _ => by
    rw [u193_34, if_pos (by decide)]
    rfl
  | m + 1, hm => by
    have e : jI (((m + 1 : Nat) : Int) - 1) = nI m := by rw [jI_n]; congr 1; omega
    have hl := jf_at_le A c m
    rw [e, u193_34, if_neg (nI_geK (by omega)), u193_39, c195 hA (by omega)]
    simp only [Option.toList_some, List.append_nil]
    rw [u193_46]
    have h2 : A / 2 ^ m % 2 < 2 := Nat.mod_lt _ (by decide)
    by_cases h : A / 2 ^ m % 2 = c
    · have ej : jf_at A c (m + 1) = jf_at A c m := by rw [jf_at, if_pos h]
      rw [if_neg (by rw [h]; exact fun h => h rfl), u193_51, show nI m + (-1 : Int32) = jI ((m : Int) - 1) by rw [jI_n, jI_m1, jI_add]; rfl, s193 hA hc m (by omega), ej]
    · have ej : jf_at A c (m + 1) = m + 1 := by rw [jf_at, if_neg h]
      rw [if_pos (by rw [nI_eqI (by omega) hc]; exact h), ej, e]
end ROWM
