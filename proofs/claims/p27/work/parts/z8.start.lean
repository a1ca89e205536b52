set_option maxRecDepth 20000
theorem jm_mx255 : jm_mx 255 = 4 := by decide +kernel
theorem jm_rk255 : jm_rk 255 [.ref 1] = 49 := by decide +kernel
/-- YOUR PART: from the entry, for every script of at most 3072 ints, the law comes to its end with true ('hflags': the launch's flags, for a law that throws: no stack traces) -/
theorem whole_start {p : Program} {e : Env} {s : State} {m : MethodId} {below : List Frame} {meth : Method} {c : Code} (l : Launch) (hflags : l.flags = flags0) {b L : Nat} {xs : Nat → Int32} (hL : L ≤ 3072) (C0 : lw_At p s m meth c b L xs) : W p l e room_1 s m #[Value.ref b] below meth c s.heap [] 0 0 (lw_Z below #[Value.ref b] s) (entryFrame m ([Value.ref b] : List Value).toArray 4) := by
  obtain ⟨n, r, H', hrun, hr, hn, hs⟩ := jl_pre (jl_run hL xs)
  subst hr
  rw [jm_rk255] at hrun
  have h := jm_whole (e := e) (below := below) l C0 hrun hn hs
  rw [jm_mx255] at h
  exact h
