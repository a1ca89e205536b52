/-! stores, one behind the other -/
theorem u2_same {α : Type} (f : Nat → Nat → α) (a k : Nat) (v w : α) : jm_u2 (jm_u2 f a k v) a k w = jm_u2 f a k w := by
  funext b j
  unfold jm_u2
  cases h : (Nat.beq b a && Nat.beq j k) <;> rfl
theorem u2_comm {α : Type} (f : Nat → Nat → α) {a k b j : Nat} (v w : α) (h : a ≠ b ∨ k ≠ j) : jm_u2 (jm_u2 f a k v) b j w = jm_u2 (jm_u2 f b j w) a k v := by
  funext c i
  unfold jm_u2
  cases h1 : (Nat.beq c a && Nat.beq i k) <;> cases h2 : (Nat.beq c b && Nat.beq i j) <;> try rfl
  exfalso
  simp only [Bool.and_eq_true, Nat.beq_eq] at h1 h2
  omega
theorem u2_self {α : Type} (f : Nat → Nat → α) (a k : Nat) : jm_u2 f a k (f a k) = f := by
  funext b j
  unfold jm_u2
  cases h : (Nat.beq b a && Nat.beq j k)
  · rfl
  · simp only [Bool.and_eq_true, Nat.beq_eq] at h
    rw [h.1, h.2]
    rfl
theorem pI_same (H : jm_H) (a k : Nat) (v w : Int32) : jm_pI (jm_pI H a k v) a k w = jm_pI H a k w := by
  unfold jm_pI
  dsimp only
  rw [u2_same]
theorem pI_comm (H : jm_H) {a k b j : Nat} (v w : Int32) (h : a ≠ b ∨ k ≠ j) : jm_pI (jm_pI H a k v) b j w = jm_pI (jm_pI H b j w) a k v := by
  unfold jm_pI
  dsimp only
  rw [u2_comm _ v w h]
theorem pI_self (H : jm_H) (a k : Nat) : jm_pI H a k (jm_I H a k) = H := by
  unfold jm_pI jm_I
  rw [u2_self]
