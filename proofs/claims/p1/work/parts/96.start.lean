set_option maxRecDepth 20000
/-! every case, and the whole -/
theorem jl_run {L : Nat} (hL : L ≤ 6) (xs : Nat → Int32) : jm_w (some (L, xs)) 49 255 18 [.ref 1, .ref 2, .ref 180, .int 0] [] jm_G jl_Q := by
  rcases Nat.lt_or_eq_of_le hL with h | rfl
  · exact jl_short h
  · exact jl_all (jl_h0 _ _ _ _ _) (jl_h1 _) (jl_h2) (jl_h3) (jl_h4 _ _) (jl_h5 _ _ _) (jl_h6) (jl_h7) (jl_h8 _ _ _ _) (jl_h9 _ _ _ _ _) (jl_h10 _ _ _ _ _) (jl_h11 _ _ _) (jl_h12 _ _ _ _ _) (jl_h13 _ _ _ _) (jl_h14 _ _ _ _) (jl_h15 _ _ _ _) (jl_h16 _ _ _ _ _) (jl_h17 _ _ _ _) (jl_h18 _ _ _ _ _) (jl_h19 _) (jl_h20 _ _ _ _) (jl_h21 _ _ _ _ _) (jl_h22 _ _) (jl_h23 _ _ _) (jl_h24 _ _) (jl_h25 _) (jl_h26 _) (jl_h27 _)
theorem jm_mx255 : jm_mx 255 = 4 := by decide +kernel
theorem jm_rk255 : jm_rk 255 [.ref 1] = 49 := by decide +kernel
/-- YOUR PART: from the entry, for every script of at most 6 ints, the law comes to its end with true ('hflags': the launch's flags, for a law that throws: no stack traces) -/
theorem whole_start {p : Program} {e : Env} {s : State} {m : MethodId} {below : List Frame} {meth : Method} {c : Code} (l : Launch) (hflags : l.flags = flags0) {b L : Nat} {xs : Nat → Int32} (hL : L ≤ 6) (C0 : lw_At p s m meth c b L xs) : W p l e room_1 s m #[Value.ref b] below meth c s.heap [] 0 0 (lw_Z below #[Value.ref b] s) (entryFrame m ([Value.ref b] : List Value).toArray 4) := by
  obtain ⟨n, r, H', hrun, hr, hn, hs⟩ := jl_pre (jl_run hL xs)
  subst hr
  rw [jm_rk255] at hrun
  have h := jm_whole (e := e) (below := below) l C0 hrun hn hs
  rw [jm_mx255] at h
  exact h
