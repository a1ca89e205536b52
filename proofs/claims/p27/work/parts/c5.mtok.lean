set_option maxRecDepth 20000
/-! the reference's meaning: token by token, let by let -/
abbrev opd' (l : Int32) : Prop := l = 1 ∨ l = 2 ∨ l = 10
def opd (l : Int32) : Nat := if opd' l then 1 else 0
theorem au_d_cases {l k : Int32} {o : List (Int32 × Nat)} {s' : Int32 × List (Int32 × Nat)} (h : au_d (l, o) k = some s') :
    ((k = 1 ∨ k = 2) ∧ ¬ opd' l ∧ s' = (k, o)) ∨ ((k = 22 ∨ k = 23) ∧ ¬ opd' l ∧ s' = (k, o)) ∨ (k = 9 ∧ (l = 22 ∨ l = 23) ∧ s' = (9, (l, 1) :: o)) ∨ (k = 9 ∧ ¬ (l = 22 ∨ l = 23) ∧ ¬ opd' l ∧ s' = (9, (0, 1) :: o)) ∨ (k = 6 ∧ (l = 99 ∨ l = 9 ∨ l = 11) ∧ s' = (6, o)) ∨ ((k = 5 ∨ k = 6 ∨ k = 7 ∨ k = 8) ∧ opd' l ∧ s' = (k, o)) ∨ (k = 11 ∧ opd' l ∧ ∃ q r, o = q :: r ∧ q.1 = 23 ∧ s' = (11, (q.1, q.2 + 1) :: r)) ∨ (k = 10 ∧ opd' l ∧ ∃ q r, o = q :: r ∧ (q.1 = 23 → q.2 % 2 = 0) ∧ s' = (10, r)) := by
  unfold au_d at h
  dsimp only at h
  by_cases hp : l = 22 ∨ l = 23
  · rw [if_pos hp] at h
    by_cases h9 : k = 9
    · rw [if_pos h9] at h
      exact Or.inr (Or.inr (Or.inl ⟨h9, hp, (Option.some.inj h).symm⟩))
    · rw [if_neg h9] at h; cases h
  rw [if_neg hp] at h
  by_cases ho : opd' l
  · rw [if_pos ho] at h
    by_cases h5 : k = 5 ∨ k = 6 ∨ k = 7 ∨ k = 8
    · rw [if_pos h5] at h
      exact Or.inr (Or.inr (Or.inr (Or.inr (Or.inr (Or.inl ⟨h5, ho, (Option.some.inj h).symm⟩)))))
    · rw [if_neg h5] at h
      cases o with
      | nil => cases h
      | cons q r =>
        dsimp only at h
        by_cases h11 : k = 11 ∧ q.1 = 23
        · rw [if_pos h11] at h
          exact Or.inr (Or.inr (Or.inr (Or.inr (Or.inr (Or.inr (Or.inl ⟨h11.1, ho, q, r, rfl, h11.2, (Option.some.inj h).symm⟩))))))
        · rw [if_neg h11] at h
          by_cases h10 : k = 10 ∧ (q.1 = 23 → q.2 % 2 = 0)
          · rw [if_pos h10] at h
            exact Or.inr (Or.inr (Or.inr (Or.inr (Or.inr (Or.inr (Or.inr ⟨h10.1, ho, q, r, rfl, h10.2, (Option.some.inj h).symm⟩))))))
          · rw [if_neg h10] at h; cases h
  · rw [if_neg ho] at h
    by_cases h6 : k = 6 ∧ (l = 99 ∨ l = 9 ∨ l = 11)
    · rw [if_pos h6] at h
      exact Or.inr (Or.inr (Or.inr (Or.inr (Or.inl ⟨h6.1, h6.2, (Option.some.inj h).symm⟩))))
    · rw [if_neg h6] at h
      by_cases h9 : k = 9
      · rw [if_pos h9] at h
        exact Or.inr (Or.inr (Or.inr (Or.inl ⟨h9, hp, ho, (Option.some.inj h).symm⟩)))
      · rw [if_neg h9] at h
        by_cases hk : k = 22 ∨ k = 23 ∨ k = 1 ∨ k = 2
        · rw [if_pos hk] at h
          rcases hk with e | e | e | e
          · exact Or.inr (Or.inl ⟨Or.inl e, ho, (Option.some.inj h).symm⟩)
          · exact Or.inr (Or.inl ⟨Or.inr e, ho, (Option.some.inj h).symm⟩)
          · exact Or.inl ⟨Or.inl e, ho, (Option.some.inj h).symm⟩
          · exact Or.inl ⟨Or.inr e, ho, (Option.some.inj h).symm⟩
        · rw [if_neg hk] at h; cases h
theorem au_d_last {s s' : Int32 × List (Int32 × Nat)} {k : Int32} (h : au_d s k = some s') : s'.1 = k := by
  obtain ⟨l, o⟩ := s
  rcases au_d_cases h with ⟨_, _, e⟩ | ⟨_, _, e⟩ | ⟨ek, _, e⟩ | ⟨ek, _, _, e⟩ | ⟨ek, _, e⟩ | ⟨_, _, e⟩ | ⟨ek, _, q, r, _, _, e⟩ | ⟨ek, _, q, r, _, _, e⟩
  all_goals rw [e]
  all_goals first | rfl | exact ek.symm
theorem au_last {kd : Nat → Int32} {t0 t : Nat} {s : Int32 × List (Int32 × Nat)} (h0 : t0 ≤ t) (h : au kd t0 (t - t0) = some s) : (t = t0 ∧ s = (99, [])) ∨ (t0 < t ∧ s.1 = kd (t - 1)) := by
  by_cases g : t = t0
  · subst g
    rw [Nat.sub_self] at h
    exact Or.inl ⟨rfl, (Option.some.inj h).symm⟩
  · obtain ⟨n, hn⟩ : ∃ n, t - t0 = n + 1 := ⟨t - t0 - 1, by omega⟩
    rw [hn] at h
    obtain ⟨s1, s2, _, h2, h3⟩ := au_pre (n + 1) h n (Nat.lt_succ_self n)
    rw [h] at h3
    rw [Option.some.inj h3]
    refine Or.inr ⟨by omega, ?_⟩
    rw [au_d_last h2, show t0 + n = t - 1 by omega]
section MTOK
variable {S : Option (Nat × (Nat → Int32))} {G0 G2 : jm_H}
def jz_own (l : Nat) (v : Option Value) : Prop := v = some (.int (-1)) ∨ ∃ j, j < l ∧ v = some (.int (nI j))
theorem l179 {G : jm_H} (st : jm_st G) {l : Nat} (hl : l ≤ 8) (el : jm_I G 180 30 = nI l) {y1 : Int64} : ∀ d i, i + d = 9 → jz (jE G) (jz_own l) (fun Q => jm_w S 1 179 2 [.ref 180, .long y1, .null, .int (nI i)] [] G Q)
  | 0, i, hd => by
    refine jz_eq (fun _ => u179_2 (st_t180 st)) ?_
    rw [el]
    exact jz_if (fun _ => jz_eq (fun _ => u179_29) (jz_end rfl (Or.inl rfl))) (fun c => absurd ((nI_leI (by omega) (by omega)).mpr (by omega)) c)
  | d + 1, i, hd => by
    have r := st_r180_23 st
    refine jz_eq (fun _ => u179_2 (st_t180 st)) ?_
    rw [el]
    refine jz_if (fun _ => jz_eq (fun _ => u179_29) (jz_end rfl (Or.inl rfl))) (fun c => ?_)
    have hi : i < l := by
      have : ¬ l ≤ i := fun q => c ((nI_leI (by omega) (by omega)).mpr q)
      omega
    refine jz_eq (fun _ => u179_10 (st_t180 st) (by rw [r]; decide) (by rw [r, st_l192 st]; exact nI_inK (by omega) (by decide)) (by rw [r]; exact st_t192 st)) (jz_if (fun _ => ?_) (fun _ => ?_))
    · refine jz_eq (fun _ => u179_23) ?_
      rw [nI_succK]
      exact l179 st hl el d (i + 1) (by omega)
    · exact jz_eq (fun _ => u179_21) (jz_end rfl (Or.inr ⟨i, hi, rfl⟩))
theorem p179 {G : jm_H} (st : jm_st G) {l : Nat} (hl : l ≤ 8) (el : jm_I G 180 30 = nI l) {y1 : Int64} : jz (jE G) (jz_own l) (fun Q => jm_c S 179 [.ref 180, .long y1] G Q) := jz_eq (fun _ => en179.trans u179_0) (l179 (S := S) st hl el 9 0 (by decide))
/-- behind a token -/
def jLt (G0 G2 : jm_H) (l a t : Nat) (s : Int32 × List (Int32 × Nat)) (G : jm_H) : Prop := ∃ ws p, p + ws.length + 2 ≤ t ∧ jL G0 G2 l a p t ws s.2 (opd s.1) G
theorem jL_c {G : jm_H} {l a p c c' x : Nat} {ws os : List (Int32 × Nat)} (hc : c ≤ c') (h : jL G0 G2 l a p c ws os x G) : jL G0 G2 l a p c' ws os x G := by
  obtain ⟨a1, a2, a3, a4, a5, a6, a7, a8, a9, a10⟩ := h
  exact ⟨a1, a2, a3, a4, a5, wm_same hc _ (fun _ _ => ⟨rfl, rfl⟩) a6, a7, a8, a9, a10⟩
theorem sw180 {x : Int32} (h : x = 22 ∨ x = 23) : x.toInt < 1 ∨ 11 < x.toInt := by
  rcases h with rfl | rfl
  · exact Or.inr (by decide)
  · exact Or.inr (by decide)
theorem z180 {G : jm_H} {l a t k0 : Nat} {s s' : Int32 × List (Int32 × Nat)} (hl : l ≤ 8) (ht0 : k0 + 2 ≤ t) (ht : t ≤ 400) (ha : au (jm_I G2 183) (k0 + 2) (t - (k0 + 2)) = some s) (hn1 : jm_I G2 183 (k0 + 1) = 1) (hd : au_d s (jm_I G2 183 t) = some s') (hv : jm_I G2 183 t = 2 → 0 ≤ (jm_I G2 185 t).toInt ∧ (jm_I G2 185 t).toInt ≤ 9999) (hG : jLt G0 G2 l a t s G) : jz (jLt G0 G2 l a (t + 1) s') jz_0 (fun Q => jm_c S 180 [.ref 180, .int (nI t), .int (if t = k0 + 2 then 1 else 0)] G Q) := by
  obtain ⟨ws, p, hpw, hL⟩ := hG
  obtain ⟨la, o⟩ := s
  have hN := hL.1
  have st := jN_st hN
  have t0 := st_t180 st
  have r5 := st_r180_5 st
  have kd := jN_kd hN
  have hin : ¬ (nI t < 0 ∨ 403 ≤ (nI t).toNatClampNeg) := nI_inK (by omega) (by decide)
  have ct := nI_cl (k := t) (by omega)
  have hlast := au_last ht0 ha
  have e1 : nI t - (1 : Int32) = nI (t - 1) := by
    obtain ⟨m, rfl⟩ : ∃ m, t = m + 1 := ⟨t - 1, by omega⟩
    rw [nI_prd]; rfl
  have hin1 : ¬ (nI (t - 1) < 0 ∨ 403 ≤ (nI (t - 1)).toNatClampNeg) := nI_inK (by omega) (by decide)
  have ct1 := nI_cl (k := t - 1) (by omega)
  generalize hx2 : (if t = k0 + 2 then (1 : Int32) else 0) = x2
  have hend : ∀ {G' : jm_H} {x3 : Value}, jLt G0 G2 l a (t + 1) s' G' → jz (jLt G0 G2 l a (t + 1) s') jz_0 (fun Q => jm_w S 3 180 330 [.ref 180, .int (nI t), .int x2, x3] [] G' Q) := fun h => jz_eq (fun _ => u180_330) (jz_end h rfl)
  refine jz_eq (fun _ => en180.trans (u180_0 t0 (by rw [r5]; decide) (by rw [r5, st_l183 st]; exact hin) (by rw [r5]; decide) (by rw [r5]; exact st_t183 st))) ?_
  rw [r5, ct, kd]
  rcases au_d_cases hd with ⟨hk, hno, es⟩ | ⟨hk, hno, es⟩ | ⟨ek, hp, es⟩ | ⟨ek, hnp, hno, es⟩ | ⟨ek, hb, es⟩ | ⟨hk, ho, es⟩ | ⟨ek, ho, q, r, eo, hq, es⟩ | ⟨ek, ho, q, r, eo, hq, es⟩
  · -- a number, a name
    have x0 : opd la = 0 := if_neg hno
    rcases hk with ek | ek
    · rw [ek]
      refine jz_eq (fun _ => u180_6_1) ?_
      have r8 := st_r180_8 st
      refine jz_eq (fun _ => u180_78 t0 (by rw [r8]; decide) (by rw [r8, st_l186 st]; exact hin) (by rw [r8]; exact st_t186 st)) ?_
      refine jz_call (p179 st hl hL.2.2.1) (fun v G1 e hv => ?_)
      obtain rfl := e
      rcases hv with rfl | ⟨j, hj, rfl⟩
      · refine jz_eq (fun _ => u180_88) (jz_if (fun c => absurd c (by decide)) (fun _ => ?_))
        refine jz_eq (fun _ => u180_93 t0) (x177 hN (by omega) (by decide) (fun G' e h0 => ?_))
        have hL' := jL_wrong (y := opd la) hL (by decide) e h0
        refine jz_eq (fun _ => u180_99 (st_t180 (jN_st hL'.1))) ?_
        refine jz_eq (fun _ => c181 (jN_st hL'.1) (p := p) (by omega) hL'.2.1) ?_
        refine jz_eq (fun _ => u180_105) (hend ⟨ws, p + 1, by omega, ?_⟩)
        rw [es]
        exact jL_c (Nat.le_succ t) (jL_st hL' (fun g => absurd g h0))
      · refine jz_eq (fun _ => u180_88) (jz_if (fun _ => ?_) (fun c => absurd ((nI_leI (a := 0) (by decide) (by omega)).mpr (Nat.zero_le j)) c))
        refine jz_eq (fun _ => u180_99 t0) ?_
        refine jz_eq (fun _ => c181 st (p := p) (by omega) hL.2.1) ?_
        refine jz_eq (fun _ => u180_105) (hend ⟨ws, p + 1, by omega, ?_⟩)
        rw [es]
        refine jL_c (Nat.le_succ t) (jL_st hL (fun _ => ?_))
        show hg_d l (wH ws + opd la) 1 (nI j) = some (wH ws + opd (jm_I G2 183 t))
        rw [x0, ek]
        unfold hg_d
        rw [if_neg (by decide), if_pos rfl, nI_toInt (by omega), if_pos ⟨by omega, by omega⟩]
        rfl
    · rw [ek]
      refine jz_eq (fun _ => u180_6_2) ?_
      have r7 := st_r180_7 st
      refine jz_eq (fun _ => u180_64 t0 (by rw [r7]; decide) (by rw [r7, st_l185 st]; exact hin) (by rw [r7]; decide) (by rw [r7]; exact st_t185 st)) ?_
      rw [r7, ct, jN_vl hN]
      refine jz_eq (fun _ => c181 st (p := p) (by omega) hL.2.1) ?_
      refine jz_eq (fun _ => u180_75) (hend ⟨ws, p + 1, by omega, ?_⟩)
      rw [es]
      refine jL_c (Nat.le_succ t) (jL_st hL (fun _ => ?_))
      show hg_d l (wH ws + opd la) 0 (jm_I G2 185 t) = some (wH ws + opd (jm_I G2 183 t))
      rw [x0, ek]
      unfold hg_d
      rw [if_pos rfl, if_pos (hv ek)]
      rfl
  · -- 'root', 'sum'
    have x0 : opd la = 0 := if_neg hno
    refine jz_eq (fun _ => u180_6_d (sw180 hk)) (hend ⟨ws, p, by omega, ?_⟩)
    rw [es]
    have x1 : opd (jm_I G2 183 t) = 0 := if_neg (by rcases hk with e | e <;> rw [e] <;> decide)
    show jL G0 G2 l a p (t + 1) ws o (opd (jm_I G2 183 t)) G
    rw [x1, ← x0]
    exact jL_c (Nat.le_succ t) hL
  · -- opened behind 'root', 'sum'
    have hno : ¬ opd' la := by rcases hp with e | e <;> rw [e] <;> decide
    have x0 : opd la = 0 := if_neg hno
    have hk1 : la = jm_I G2 183 (t - 1) := by
      rcases hlast with ⟨_, e⟩ | ⟨_, e⟩
      · exfalso
        have : la = 99 := congrArg Prod.fst e
        rw [this] at hp
        revert hp; decide
      · exact e
    have fin : ∀ {k : Int32}, k = wmk la → jz (jLt G0 G2 l a (t + 1) s') jz_0 (fun Q => jm_w S 3 180 146 [.ref 180, .int (nI t), .int x2, .null] [.int k, .ref 180] G Q) := by
      intro k hk
      refine jz_eq (fun _ => u180_146 t0) ?_
      refine jz_eq (fun _ => c182 st (m := ws.length) (by omega) hL.2.2.2.1) ?_
      refine jz_eq (fun _ => u180_149) (hend ⟨(k, 1) :: ws, p, by show p + (ws.length + 1) + 2 ≤ t + 1; omega, ?_⟩)
      rw [es]
      refine jL_c (Nat.le_succ t) (jL_wt hL (by omega) (Or.inr ⟨(la, 1), o, rfl, by rw [hk], fun _ => rfl, hL.2.2.2.2.2.2.1⟩) ?_)
      show wH ((k, 1) :: ws) + opd 9 = wH ws + opd la
      rw [x0, hk]
      rcases hp with e | e <;> rw [e] <;> show (0 : Nat) + wH ws + 0 = wH ws + 0 <;> omega
    rw [ek]
    refine jz_eq (fun _ => u180_6_9) ?_
    refine jz_eq (fun _ => u180_108 t0 (by rw [r5]; decide) (by rw [r5, st_l183 st, e1]; exact hin1) (by rw [r5]; decide) (by rw [r5]; exact st_t183 st)) ?_
    rw [r5, e1, ct1, kd, ← hk1]
    rcases hp with e | e
    · refine jz_if (fun c => absurd e c) (fun _ => ?_)
      exact jz_eq (fun _ => u180_122) (fin (by rw [e]; rfl))
    · refine jz_if (fun _ => ?_) (fun c => absurd (show ¬ la = 22 by rw [e]; decide) c)
      refine jz_eq (fun _ => u180_127 t0 (by rw [r5]; decide) (by rw [r5, st_l183 st, e1]; exact hin1) (by rw [r5]; decide) (by rw [r5]; exact st_t183 st)) ?_
      rw [r5, e1, ct1, kd, ← hk1]
      refine jz_if (fun c => absurd e c) (fun _ => ?_)
      exact jz_eq (fun _ => u180_140) (fin (by rw [e]; rfl))
  · -- opened
    have x0 : opd la = 0 := if_neg hno
    have hk1 : ¬ jm_I G2 183 (t - 1) = 22 ∧ ¬ jm_I G2 183 (t - 1) = 23 := by
      rcases hlast with ⟨g, e⟩ | ⟨_, e⟩
      · rw [show t - 1 = k0 + 1 by omega, hn1]; decide
      · exact ⟨fun q => hnp (Or.inl (e.trans q)), fun q => hnp (Or.inr (e.trans q))⟩
    rw [ek]
    refine jz_eq (fun _ => u180_6_9) ?_
    refine jz_eq (fun _ => u180_108 t0 (by rw [r5]; decide) (by rw [r5, st_l183 st, e1]; exact hin1) (by rw [r5]; decide) (by rw [r5]; exact st_t183 st)) ?_
    rw [r5, e1, ct1, kd]
    refine jz_if (fun _ => ?_) (fun c => absurd hk1.1 c)
    refine jz_eq (fun _ => u180_127 t0 (by rw [r5]; decide) (by rw [r5, st_l183 st, e1]; exact hin1) (by rw [r5]; decide) (by rw [r5]; exact st_t183 st)) ?_
    rw [r5, e1, ct1, kd]
    refine jz_if (fun _ => ?_) (fun c => absurd hk1.2 c)
    refine jz_eq (fun _ => u180_145) ?_
    refine jz_eq (fun _ => u180_146 t0) ?_
    refine jz_eq (fun _ => c182 st (m := ws.length) (by omega) hL.2.2.2.1) ?_
    refine jz_eq (fun _ => u180_149) (hend ⟨(-1, 1) :: ws, p, by show p + (ws.length + 1) + 2 ≤ t + 1; omega, ?_⟩)
    rw [es]
    refine jL_c (Nat.le_succ t) (jL_wt hL (by omega) (Or.inr ⟨(0, 1), o, rfl, rfl, fun _ => rfl, hL.2.2.2.2.2.2.1⟩) ?_)
    show (0 : Nat) + wH ws + opd 9 = wH ws + opd la
    rw [x0]
    show (0 : Nat) + wH ws + 0 = wH ws + 0
    omega
  · -- a sign ahead
    have hno : ¬ opd' la := by rcases hb with e | e | e <;> rw [e] <;> decide
    have x0 : opd la = 0 := if_neg hno
    have h257 : jz (jLt G0 G2 l a (t + 1) s') jz_0 (fun Q => jm_w S 3 180 257 [.ref 180, .int (nI t), .int x2, .null] [] G Q) := by
      refine jz_eq (fun _ => u180_257) ?_
      refine jz_eq (fun _ => u180_262) (jz_if (fun _ => ?_) (fun c => absurd (show ¬ (1 : Int32) = 0 by decide) c))
      refine jz_eq (fun _ => u180_272) (jz_if (fun c => absurd c (by decide)) (fun _ => ?_))
      refine jz_eq (fun _ => u180_277) ?_
      refine jz_eq (fun _ => u180_282 t0) ?_
      refine jz_eq (fun _ => c182 st (m := ws.length) (by omega) hL.2.2.2.1) ?_
      refine jz_eq (fun _ => u180_285) (hend ⟨(2, 1) :: ws, p, by show p + (ws.length + 1) + 2 ≤ t + 1; omega, ?_⟩)
      rw [es]
      refine jL_c (Nat.le_succ t) (jL_wt hL (by omega) (Or.inl ⟨Or.inl rfl, hL.2.2.2.2.2.2.1⟩) ?_)
      show (0 : Nat) + wH ws + opd 6 = wH ws + opd la
      rw [x0]
      show (0 : Nat) + wH ws + 0 = wH ws + 0
      omega
    rw [ek]
    refine jz_eq (fun _ => u180_6_6) ?_
    refine jz_eq (fun _ => u180_227) (jz_if (fun _ => h257) (fun c => ?_))
    have hlt : k0 + 2 < t := by
      have : ¬ t = k0 + 2 := fun q => c (by rw [← hx2, if_pos q]; decide)
      omega
    have hk1 : jm_I G2 183 (t - 1) = 9 ∨ jm_I G2 183 (t - 1) = 11 := by
      rcases hlast with ⟨g, _⟩ | ⟨_, e⟩
      · omega
      · have e' : la = jm_I G2 183 (t - 1) := e
        rcases hb with h | h | h
        · exfalso
          obtain ⟨n, hn⟩ : ∃ n, t - (k0 + 2) = n + 1 := ⟨t - (k0 + 2) - 1, by omega⟩
          rw [hn] at ha
          obtain ⟨s1, s2, _, h2, _⟩ := au_pre (n + 1) ha n (Nat.lt_succ_self n)
          have hkk : jm_I G2 183 (k0 + 2 + n) = 99 := by rw [show k0 + 2 + n = t - 1 by omega, ← e', h]
          rw [hkk, au_d_no (by decide) (by decide) (by decide) (by decide) (by decide)] at h2
          cases h2
        · exact Or.inl (by rw [← e', h])
        · exact Or.inr (by rw [← e', h])
    refine jz_eq (fun _ => u180_231 t0 (by rw [r5]; decide) (by rw [r5, st_l183 st, e1]; exact hin1) (by rw [r5]; decide) (by rw [r5]; exact st_t183 st)) ?_
    rw [r5, e1, ct1, kd]
    refine jz_if (fun _ => h257) (fun c9 => ?_)
    refine jz_eq (fun _ => u180_244 t0 (by rw [r5]; decide) (by rw [r5, st_l183 st, e1]; exact hin1) (by rw [r5]; decide) (by rw [r5]; exact st_t183 st)) ?_
    rw [r5, e1, ct1, kd]
    exact jz_if (fun c11 => absurd (hk1.resolve_left c9) c11) (fun _ => h257)
  · -- a sign between two
    have x1 : opd la = 1 := if_pos ho
    have hL1 : jL G0 G2 l a p t ws o 1 G := by rw [← x1]; exact hL
    have hk1 : k0 + 2 < t ∧ la = jm_I G2 183 (t - 1) := by
      rcases hlast with ⟨_, e⟩ | h
      · exfalso
        have : la = 99 := congrArg Prod.fst e
        rw [this] at ho
        revert ho; decide
      · exact h
    have fin : ∀ {k : Int32} {ws' : List (Int32 × Nat)} {p' : Nat} {G' : jm_H}, (k = 3 ∨ k = 4 ∨ k = 5 ∨ k = 6) → p' + ws'.length = p + ws.length → jL G0 G2 l a p' t ws' o 1 G' → jLt G0 G2 l a (t + 1) s' (mwt G' ws'.length k) := by
      intro k ws' p' G' hk4 h1 h2
      refine ⟨(k, 1) :: ws', p', by show p' + (ws'.length + 1) + 2 ≤ t + 1; omega, ?_⟩
      rw [es]
      refine jL_c (Nat.le_succ t) (jL_wt h2 (by omega) (Or.inl ⟨Or.inr hk4, h2.2.2.2.2.2.2.1⟩) ?_)
      have xk : opd (jm_I G2 183 t) = 0 := if_neg (by rcases hk with e | e | e | e <;> rw [e] <;> decide)
      show wH ((k, 1) :: ws') + opd (jm_I G2 183 t) = wH ws' + 1
      rw [xk]
      have : wH ((k, 1) :: ws') = 1 + wH ws' := by
        show (if k = 2 then 0 else if k = 3 ∨ k = 4 ∨ k = 5 ∨ k = 6 then 1 else 1 - 1) + wH ws' = _
        rw [if_neg (by rcases hk4 with e | e | e | e <;> rw [e] <;> decide), if_pos hk4]
      omega
    rcases hk with ek | ek | ek | ek
    · rw [ek]
      refine jz_eq (fun _ => u180_6_5) ?_
      refine jz_eq (fun _ => (u180_288 t0).trans en183) (x183 (by decide) ws p (by omega) hL1 (fun ws' p' G' h1 _ h2 => ?_))
      refine jz_eq (fun _ => u180_293 (st_t180 (jN_st h2.1))) ?_
      refine jz_eq (fun _ => c182 (jN_st h2.1) (m := ws'.length) (by omega) h2.2.2.2.1) ?_
      exact jz_eq (fun _ => u180_298) (hend (fin (Or.inl rfl) h1 h2))
    · have h261 : jz (jLt G0 G2 l a (t + 1) s') jz_0 (fun Q => jm_w S 3 180 261 [.ref 180, .int (nI t), .int x2, .null] [] G Q) := by
        refine jz_eq (fun _ => u180_261) ?_
        refine jz_eq (fun _ => u180_262) (jz_if (fun c => absurd rfl c) (fun _ => ?_))
        refine jz_eq (fun _ => (u180_267 t0).trans en183) (x183 (by decide) ws p (by omega) hL1 (fun ws' p' G' h1 _ h2 => ?_))
        refine jz_eq (fun _ => u180_272) (jz_if (fun _ => ?_) (fun c => absurd rfl c))
        refine jz_eq (fun _ => u180_281) ?_
        refine jz_eq (fun _ => u180_282 (st_t180 (jN_st h2.1))) ?_
        refine jz_eq (fun _ => c182 (jN_st h2.1) (m := ws'.length) (by omega) h2.2.2.2.1) ?_
        exact jz_eq (fun _ => u180_285) (hend (fin (Or.inr (Or.inl rfl)) h1 h2))
      have hx0 : x2 = 0 := by rw [← hx2, if_neg (by omega)]
      have hk9 : ¬ jm_I G2 183 (t - 1) = 9 ∧ ¬ jm_I G2 183 (t - 1) = 11 := by
        rw [← hk1.2]
        rcases ho with e | e | e <;> rw [e] <;> decide
      rw [ek]
      refine jz_eq (fun _ => u180_6_6) ?_
      refine jz_eq (fun _ => u180_227) (jz_if (fun c => absurd hx0 c) (fun _ => ?_))
      refine jz_eq (fun _ => u180_231 t0 (by rw [r5]; decide) (by rw [r5, st_l183 st, e1]; exact hin1) (by rw [r5]; decide) (by rw [r5]; exact st_t183 st)) ?_
      rw [r5, e1, ct1, kd]
      refine jz_if (fun c => absurd c hk9.1) (fun _ => ?_)
      refine jz_eq (fun _ => u180_244 t0 (by rw [r5]; decide) (by rw [r5, st_l183 st, e1]; exact hin1) (by rw [r5]; decide) (by rw [r5]; exact st_t183 st)) ?_
      rw [r5, e1, ct1, kd]
      exact jz_if (fun _ => h261) (fun c => absurd hk9.2 c)
    all_goals
      have h301 : jz (jLt G0 G2 l a (t + 1) s') jz_0 (fun Q => jm_w S 3 180 301 [.ref 180, .int (nI t), .int x2, .null] [] G Q) := by
        refine jz_eq (fun _ => (u180_301 t0).trans en183) (x183 (by decide) ws p (by omega) hL1 (fun ws' p' G' h1 _ h2 => ?_))
        have st2 := jN_st h2.1
        have r5' := st_r180_5 st2
        have h324 : ∀ {k : Int32}, (k = 5 ∨ k = 6) → jz (jLt G0 G2 l a (t + 1) s') jz_0 (fun Q => jm_w S 3 180 324 [.ref 180, .int (nI t), .int x2, .null] [.int k, .ref 180] G' Q) := by
          intro k hk5
          refine jz_eq (fun _ => u180_324 (st_t180 st2)) ?_
          refine jz_eq (fun _ => c182 st2 (m := ws'.length) (by omega) h2.2.2.2.1) ?_
          exact jz_eq (fun _ => u180_327) (hend (fin (Or.inr (Or.inr hk5)) h1 h2))
        refine jz_eq (fun _ => u180_306 (st_t180 st2) (by rw [r5']; decide) (by rw [r5', st_l183 st2]; exact hin) (by rw [r5']; decide) (by rw [r5']; exact st_t183 st2)) (jz_if (fun _ => ?_) (fun _ => ?_))
        · exact jz_eq (fun _ => u180_322) (h324 (Or.inr rfl))
        · exact jz_eq (fun _ => u180_318) (h324 (Or.inl rfl))
      rw [ek]
      first
        | exact jz_eq (fun _ => u180_6_7) h301
        | exact jz_eq (fun _ => u180_6_8) h301
  · -- a comma
    have x1 : opd la = 1 := if_pos ho
    have hL1 : jL G0 G2 l a p t ws o 1 G := by rw [← x1]; exact hL
    rw [ek]
    refine jz_eq (fun _ => u180_6_11) ?_
    refine jz_eq (fun _ => (u180_152 t0).trans en183) (x183 (by decide) ws p (by omega) hL1 (fun ws' p' G' h1 htop h2 => ?_))
    have st2 := jN_st h2.1
    have r35 := st_r180_35 st2
    rcases sim_top h2.2.2.2.2.2.2.1 htop with ⟨e, _⟩ | ⟨o1, r1, rs, e, ews, ho1, hs⟩
    · rw [eo] at e; cases e
    · rw [eo] at e
      obtain ⟨rfl, rfl⟩ := List.cons.inj e
      subst ews
      have hlen : (rs.length + 1) + p' = p + ws.length := by have : ((wmk q.1, q.2) :: rs).length = rs.length + 1 := rfl; omega
      have hix : ¬ (nI rs.length < 0 ∨ 400 ≤ (nI rs.length).toNatClampNeg) := nI_inK (by omega) (by decide)
      have e36 : jm_I G' 180 36 = nI (rs.length + 1) := h2.2.2.2.1
      have hw := h2.2.2.2.2.2.1
      have e200 : jm_I G' 200 rs.length = nI q.2 := hw.2.1
      refine jz_eq (fun _ => u180_157 (st_t180 st2) (by rw [r35]; decide) (by rw [e36, nI_prd, r35, st_l200 st2]; exact hix) (by rw [r35]; decide) (by rw [r35]; exact st_t200 st2)) ?_
      rw [e36, nI_prd, r35, nI_cl (by omega), e200, nI_succK]
      refine hend ⟨(wmk q.1, q.2 + 1) :: rs, p', by show p' + (rs.length + 1) + 2 ≤ t + 1; omega, ?_⟩
      rw [es]
      refine jL_w h2 (jN_pA h2.1 (by decide)) (by rw [jm_I_pI, if_neg (by omega)]; exact e36) ⟨?_, ?_, ⟨by show 1 ≤ q.2 + 1; omega, by have := hw.2.2.1.2; show q.2 + 1 ≤ t + 1; omega⟩, ?_⟩ (Or.inr ⟨(q.1, q.2 + 1), r, rfl, rfl, fun g => absurd hq g, hs⟩) ?_ (fun r k hr => by rw [jm_I_pI, if_neg (by omega)])
      · rw [jm_I_pI, if_neg (by omega)]; exact hw.1
      · rw [jm_I_pI, if_pos ⟨rfl, rfl⟩]
      · refine wm_same (Nat.le_succ t) _ (fun k hk => ?_) hw.2.2.2
        constructor
        · rw [jm_I_pI, if_neg (by omega)]
        · rw [jm_I_pI, if_neg (by omega)]
      · have h1q : 1 ≤ q.2 := hw.2.2.1.1
        show wH ((wmk q.1, q.2 + 1) :: rs) + opd 11 = wH ((wmk q.1, q.2) :: rs) + 1
        rw [hq]
        show (q.2 + 1 - 1) + wH rs + 0 = (q.2 - 1) + wH rs + 1
        omega
  · -- closed
    have x1 : opd la = 1 := if_pos ho
    have hL1 : jL G0 G2 l a p t ws o 1 G := by rw [← x1]; exact hL
    rw [ek]
    refine jz_eq (fun _ => u180_6_10) ?_
    refine jz_eq (fun _ => (u180_175 t0).trans en183) (x183 (by decide) ws p (by omega) hL1 (fun ws' p' G' h1 htop h2 => ?_))
    have st2 := jN_st h2.1
    have r34 := st_r180_34 st2
    rcases sim_top h2.2.2.2.2.2.2.1 htop with ⟨e, _⟩ | ⟨o1, r1, rs, e, ews, ho1, hs⟩
    · rw [eo] at e; cases e
    · rw [eo] at e
      obtain ⟨rfl, rfl⟩ := List.cons.inj e
      subst ews
      have hlen : (rs.length + 1) + p' = p + ws.length := by have : ((wmk q.1, q.2) :: rs).length = rs.length + 1 := rfl; omega
      have hix : ¬ (nI rs.length < 0 ∨ 400 ≤ (nI rs.length).toNatClampNeg) := nI_inK (by omega) (by decide)
      have e36 : jm_I G' 180 36 = nI (rs.length + 1) := h2.2.2.2.1
      have hw := h2.2.2.2.2.2.1
      have e200 : jm_I G' 200 rs.length = nI q.2 := hw.2.1
      have e199 : jm_I G' 199 rs.length = wmk q.1 := hw.1
      have h1q : 1 ≤ q.2 := hw.2.2.1.1
      have cl := nI_cl (k := rs.length) (by omega)
      have e36' : jm_I (jm_pI G' 180 36 (nI rs.length)) 180 36 = nI rs.length := by rw [jm_I_pI, if_pos ⟨rfl, rfl⟩]
      -- what is left, ahead of its step: so high
      have k1 : jL G0 G2 l a p' t rs r (q.2 - 1 + 1) (jm_pI G' 180 36 (nI rs.length)) := by
        refine jL_w h2 (jN_pI h2.1 (by decide)) e36' (wm_same (Nat.le_refl _) _ (fun k _ => by constructor <;> rw [jm_I_pI, if_neg (by omega)]) hw.2.2.2) hs ?_ (fun r k hr => by rw [jm_I_pI, if_neg (by omega)])
        have eH : wH ((wmk q.1, q.2) :: rs) = (q.2 - 1) + wH rs := by
          have hn := wmk_no q.1
          unfold wop at hn
          show (if wmk q.1 = 2 then 0 else if wmk q.1 = 3 ∨ wmk q.1 = 4 ∨ wmk q.1 = 5 ∨ wmk q.1 = 6 then 1 else q.2 - 1) + wH rs = _
          rw [if_neg (fun g => hn (Or.inl g)), if_neg (fun g => hn (Or.inr g))]
        omega
      have st3 := jN_st k1.1
      have r34' := st_r180_34 st3
      have r35' := st_r180_35 st3
      refine jz_eq (fun _ => u180_180 (st_t180 st2) (by rw [r34]; decide) (by rw [e36, nI_prd, e36', r34, st_l199 st2]; exact hix) (by rw [r34]; decide) (by rw [r34]; exact st_t199 st2)) ?_
      rw [e36, nI_prd, e36', r34, cl, jm_I_pI, if_neg (by omega), e199]
      by_cases hmk : q.1 = 22 ∨ q.1 = 23
      · refine jz_if (fun c => ?_) (fun _ => ?_)
        · exfalso
          rcases hmk with e | e <;> rw [e] at c <;> revert c <;> decide
        · refine jz_eq (fun _ => u180_202 (st_t180 st3) (by rw [r34']; decide) (by rw [e36', r34', st_l199 st3]; exact hix) (by rw [r34']; decide) (by rw [r34']; exact st_t199 st3) (by rw [r35']; decide) (by rw [e36', r35', st_l200 st3]; exact hix) (by rw [r35']; decide) (by rw [r35']; exact st_t200 st3)) ?_
          rw [e36', r34', r35', cl, jm_I_pI, if_neg (by omega), jm_I_pI, if_neg (by omega), e199, e200]
          refine jz_eq (fun _ => c181 st3 (p := p') (by omega) k1.2.1) ?_
          refine jz_eq (fun _ => u180_224) (hend ⟨rs, p' + 1, by omega, ?_⟩)
          rw [es]
          refine jL_c (Nat.le_succ t) (jL_st k1 (fun _ => ?_))
          show hg_d l (wH rs + (q.2 - 1 + 1)) (wmk q.1) (nI q.2) = some (wH rs + 1)
          have hq4 : q.2 ≤ 400 := by have := hw.2.2.1.2; have : q.2 ≤ t := this; omega
          rcases hmk with e | e
          · have hq1 : q.2 = 1 := ho1 (by rw [e]; decide)
            rw [e, hq1]
            unfold hg_d
            rw [show wmk 22 = 7 from rfl, if_neg (by decide), if_neg (by decide), if_pos (Or.inr rfl), if_pos (by omega)]
          · rw [e]
            unfold hg_d
            rw [show wmk 23 = 8 from rfl, if_neg (by decide), if_neg (by decide), if_neg (by decide), if_neg (by decide), if_pos rfl, nI_toInt (by omega), Int.toNat_natCast, if_pos ⟨by omega, by omega, hq e⟩]
            congr 1
            omega
      · have hq1 : q.2 = 1 := ho1 (fun g => hmk (Or.inr g))
        have emk : wmk q.1 = -1 := by unfold wmk; rw [if_neg (fun g => hmk (Or.inl g)), if_neg (fun g => hmk (Or.inr g))]
        rw [emk]
        refine jz_if (fun _ => hend ⟨rs, p', by omega, ?_⟩) (fun c => absurd (by decide) c)
        rw [es]
        rw [hq1] at k1
        exact jL_c (Nat.le_succ t) k1
/-- a let: from its expression to its end -/
theorem l178 {l a k0 e : Nat} {sE : Int32 × List (Int32 × Nat)} {K : jm_H → Prop} {R : Option Value → Prop} (hl : l ≤ 8) (he : e ≤ 400) (hE : au (jm_I G2 183) (k0 + 2) (e - (k0 + 2)) = some sE) (h4 : jm_I G2 183 e = 4) (hn1 : jm_I G2 183 (k0 + 1) = 1) (hv : ∀ t, t < e → jm_I G2 183 t = 2 → 0 ≤ (jm_I G2 185 t).toInt ∧ (jm_I G2 185 t).toInt ≤ 9999) (E : ∀ {G : jm_H}, jLt G0 G2 l a e sE G → jz K R (fun Q => jm_w S 4 178 78 [.ref 180, .int (nI k0), .int (nI e)] [] G Q)) : ∀ (d t : Nat), t + d = e → k0 + 2 ≤ t → ∀ {s : Int32 × List (Int32 × Nat)} {G : jm_H}, au (jm_I G2 183) (k0 + 2) (t - (k0 + 2)) = some s → jLt G0 G2 l a t s G → jz K R (fun Q => jm_w S 4 178 45 [.ref 180, .int (nI k0), .int (nI t)] [] G Q)
  | 0, t, hd, ht, s, G, ha, hG => by
    obtain rfl : t = e := by omega
    have hN : jN G0 G2 G := by obtain ⟨ws, p, _, h⟩ := hG; exact h.1
    have st := jN_st hN
    have r5 := st_r180_5 st
    refine jz_eq (fun _ => u178_45 (st_t180 st) (by rw [r5]; decide) (by rw [r5, st_l183 st]; exact nI_inK (by omega) (by decide)) (by rw [r5]; decide) (by rw [r5]; exact st_t183 st)) ?_
    rw [r5, nI_cl (by omega), jN_kd hN]
    rw [hE] at ha
    refine jz_if (fun _ => E (by rw [Option.some.inj ha]; exact hG)) (fun c => absurd h4 c)
  | d + 1, t, hd, ht, s, G, ha, hG => by
    have hN : jN G0 G2 G := by obtain ⟨ws, p, _, h⟩ := hG; exact h.1
    have st := jN_st hN
    have r5 := st_r180_5 st
    obtain ⟨s1, s', h1, h2, h3⟩ := au_pre _ hE (t - (k0 + 2)) (by omega)
    rw [ha] at h1
    obtain rfl := Option.some.inj h1
    rw [show k0 + 2 + (t - (k0 + 2)) = t by omega] at h2
    have hno := (au_d_ok h2).2.2
    refine jz_eq (fun _ => u178_45 (st_t180 st) (by rw [r5]; decide) (by rw [r5, st_l183 st]; exact nI_inK (by omega) (by decide)) (by rw [r5]; decide) (by rw [r5]; exact st_t183 st)) ?_
    rw [r5, nI_cl (by omega), jN_kd hN]
    refine jz_if (fun c => absurd c hno) (fun _ => ?_)
    have h69 : jz K R (fun Q => jm_w S 4 178 69 [.ref 180, .int (nI k0), .int (nI t)] [.int (if t = k0 + 2 then 1 else 0), .int (nI t), .ref 180] G Q) := by
      refine jz_eq (fun _ => u178_69 (st_t180 st)) (jz_call (z180 hl ht (by omega) ha hn1 h2 (hv t (by omega)) hG) (fun v G hG hv' => ?_))
      obtain rfl := hv'
      refine jz_eq (fun _ => u178_72) ?_
      rw [nI_succK]
      exact l178 hl he hE h4 hn1 hv E d (t + 1) (by omega) (by omega) (by rw [show t + 1 - (k0 + 2) = (t - (k0 + 2)) + 1 by omega]; exact h3) hG
    have e2 : nI k0 + (2 : Int32) = nI (k0 + 2) := by rw [show (2 : Int32) = nI 2 from rfl, nI_addN]
    refine jz_eq (fun _ => u178_55) ?_
    rw [e2]
    by_cases g : t = k0 + 2
    · rw [if_pos g] at h69
      refine jz_if (fun c => absurd (by rw [g]) c) (fun _ => ?_)
      exact jz_eq (fun _ => u178_64) h69
    · rw [if_neg g] at h69
      refine jz_if (fun _ => ?_) (fun c => absurd (fun q => g ((nI_eqI (by omega) (by omega)).mp q)) c)
      exact jz_eq (fun _ => u178_68) h69
/-- between lets -/
def jB (G0 G2 : jm_H) (l p : Nat) (G : jm_H) : Prop := jN G0 G2 G ∧ jm_I G 180 29 = nI p ∧ jm_I G 180 30 = nI l ∧ (l = 0 ∨ jm_I G 196 l = nI p) ∧ (jm_I G 180 14 = 0 → jPr G l p)
theorem jB_wrong {G G' : jm_H} {l p : Nat} {k : Int32} (h : jB G0 G2 l p G) (hk : 0 < k.toInt) (e : G' = G ∨ ∃ v, G' = jm_pI (jm_pI G 180 14 k) 180 15 v) (h0 : jm_I G' 180 14 ≠ 0) : jB G0 G2 l p G' := ⟨jN_wrong h.1 hk e, by rw [wrong_I e (by decide)]; exact h.2.1, by rw [wrong_I e (by decide)]; exact h.2.2.1, h.2.2.2.1.elim Or.inl (fun g => Or.inr (by rw [wrong_I e (Or.inl (by decide))]; exact g)), fun g => absurd g h0⟩
theorem z178 {G : jm_H} {l p k0 n : Nat} (hl : l < 8) (hn : n ≤ 400) (hk : k0 < n) (hp : p ≤ k0) (hv : ∀ t, t < n → jm_I G2 183 t = 2 → 0 ≤ (jm_I G2 185 t).toInt ∧ (jm_I G2 185 t).toInt ≤ 9999) (hok : lineok (jm_I G2 183) k0 n) (hG : jB G0 G2 l p G) : jz (fun G' => ∃ p', (∃ e, k0 < e ∧ e < n ∧ p' ≤ e ∧ ∀ i, k0 < i → i ≤ e → jm_I G2 183 i ≠ 21) ∧ jB G0 G2 (l + 1) p' G') jz_0 (fun Q => jm_c S 178 [.ref 180, .int (nI k0)] G Q) := by
  obtain ⟨hn1, e, sE, h2, he, hE, hacc, h4⟩ := hok
  have st := jN_st hG.1
  have r8 := st_r180_8 st
  have e1 := nI_succK k0
  have hin : ∀ {G : jm_H}, jm_st G → ¬ (nI (k0 + 1) < 0 ∨ jm_ln G 186 ≤ (nI (k0 + 1)).toNatClampNeg) := fun st => by rw [st_l186 st]; exact nI_inK (by omega) (by decide)
  have e2 : nI k0 + (2 : Int32) = nI (k0 + 2) := by rw [show (2 : Int32) = nI 2 from rfl, nI_addN]
  have h23 : ∀ {G : jm_H}, jB G0 G2 l p G → jz (fun G' => ∃ p', (∃ e, k0 < e ∧ e < n ∧ p' ≤ e ∧ ∀ i, k0 < i → i ≤ e → jm_I G2 183 i ≠ 21) ∧ jB G0 G2 (l + 1) p' G') jz_0 (fun Q => jm_w S 4 178 23 [.ref 180, .int (nI k0), .null] [] G Q) := by
    intro G hG
    obtain ⟨hN, e29, e30, e196, hpr⟩ := hG
    have st := jN_st hN
    have r28 := st_r180_28 st
    refine jz_eq (fun _ => u178_23 (st_t180 st) (by rw [r28]; decide) (by rw [e30, r28, st_l196 st]; exact nI_inK (by omega) (by decide)) (by rw [r28]; exact st_t196 st)) ?_
    rw [e30, e29, r28, nI_cl (by omega), e2]
    have hstart : jLt G0 G2 l p (k0 + 2) (99, []) (jm_pI (jm_pI G 196 l (nI p)) 180 36 0) := by
      refine ⟨[], p, by show p + 0 + 2 ≤ k0 + 2; omega, jN_pI (jN_pA hN (by decide)) (by decide), ?_, ?_, ?_, Nat.le_refl _, trivial, rfl, ?_, fun _ => ?_, fun g => ?_⟩
      · simp only [jm_I_pI, Nat.reduceEqDiff, false_and, and_false, if_false]; exact e29
      · simp only [jm_I_pI, Nat.reduceEqDiff, false_and, and_false, if_false]; exact e30
      · rw [jm_I_pI, if_pos ⟨rfl, rfl⟩]; rfl
      · rw [jm_I_pI, if_neg (by omega), jm_I_pI, if_pos ⟨rfl, rfl⟩]
      · rw [Nat.sub_self]; rfl
      · simp only [jm_I_pI, Nat.reduceEqDiff, false_and, and_false, if_false] at g
        have hq := hpr g
        -- what stands in 196 ahead of l stays
        intro j hj
        obtain ⟨a, b, h, f1, f2, f3, f4, f5, f6⟩ := hq j hj
        by_cases gj : j + 1 = l
        · refine ⟨a, b, h, ?_, ?_, f3, f4, f5, f6⟩
          · simp only [jm_I_pI, Nat.reduceEqDiff, false_and, true_and, if_false]; rw [if_neg (by omega)]; exact f1
          · simp only [jm_I_pI, Nat.reduceEqDiff, false_and, true_and, if_false]
            rw [if_pos gj]
            rcases e196 with g0 | g0
            · omega
            · rw [gj, g0] at f2
              have := (nI_eqI (by omega) (by omega)).mp f2
              rw [this]
        · refine ⟨a, b, h, ?_, ?_, f3, f4, f5, f6⟩
          · simp only [jm_I_pI, Nat.reduceEqDiff, false_and, true_and, if_false]; rw [if_neg (by omega)]; exact f1
          · simp only [jm_I_pI, Nat.reduceEqDiff, false_and, true_and, if_false]; rw [if_neg gj]; exact f2
    have hsum : ∀ {G : jm_H}, jLt G0 G2 l p e sE G → jz (fun G' => ∃ p', (∃ e, k0 < e ∧ e < n ∧ p' ≤ e ∧ ∀ i, k0 < i → i ≤ e → jm_I G2 183 i ≠ 21) ∧ jB G0 G2 (l + 1) p' G') jz_0 (fun Q => jm_w S 4 178 78 [.ref 180, .int (nI k0), .int (nI e)] [] G Q) := by
      intro G hG
      obtain ⟨ws, q, hq, hL⟩ := hG
      have x1 : opd sE.1 = 1 := if_pos hacc.1
      rw [x1, hacc.2] at hL
      refine jz_eq (fun _ => (u178_78 (st_t180 (jN_st hL.1))).trans en183) (x183 (by decide) ws q (by omega) hL (fun ws' q' G' f1 htop f2 => ?_))
      have ew : ws' = [] := by
        rcases sim_top f2.2.2.2.2.2.2.1 htop with ⟨_, h⟩ | ⟨o, r, rs, h, _⟩
        · exact h
        · cases h
      subst ew
      have eq' : q' = q + ws.length := by have : ([] : List (Int32 × Nat)).length = 0 := rfl; omega
      obtain ⟨g1, g2, g3, g4, g5, g6, g7, g8, g9, g10⟩ := f2
      have st := jN_st g1
      have t0 := st_t180 st
      have r8 := st_r180_8 st
      have r23 := st_r180_23 st
      have r28 := st_r180_28 st
      have cl := nI_cl (k := l) (by omega)
      have cl1 := nI_cl (k := l + 1) (by omega)
      have l6 := st_l186 st
      have l2 := st_l192 st
      have l9 := st_l196 st
      have i1 : ¬ (nI (k0 + 1) < 0 ∨ 403 ≤ (nI (k0 + 1)).toNatClampNeg) := nI_inK (by omega) (by decide)
      have i2 : ¬ (nI l < 0 ∨ 8 ≤ l) := by
        have h := nI_inK (k := l) (n := 8) (by omega) (by decide)
        rw [cl] at h
        exact h
      have i3 : ¬ (nI (l + 1) < 0 ∨ 9 ≤ l + 1) := by
        have h := nI_inK (k := l + 1) (n := 9) (by omega) (by decide)
        rw [cl1] at h
        exact h
      refine jz_eq (fun _ => u178_83 (by first | exact t0 | (simp only [r8, r23, r28, g3, g2, e1, cl, cl1, l6, l2, l9, nI_succK, jm_I_pI, jm_I_pL, Nat.reduceEqDiff, false_and, and_false, and_self, if_false, if_true]; first | decide | exact i1 | exact i2 | exact i3 | exact st_t186 st | exact st_t192 st | exact st_t196 st)) (by first | exact t0 | (simp only [r8, r23, r28, g3, g2, e1, cl, cl1, l6, l2, l9, nI_succK, jm_I_pI, jm_I_pL, Nat.reduceEqDiff, false_and, and_false, and_self, if_false, if_true]; first | decide | exact i1 | exact i2 | exact i3 | exact st_t186 st | exact st_t192 st | exact st_t196 st)) (by first | exact t0 | (simp only [r8, r23, r28, g3, g2, e1, cl, cl1, l6, l2, l9, nI_succK, jm_I_pI, jm_I_pL, Nat.reduceEqDiff, false_and, and_false, and_self, if_false, if_true]; first | decide | exact i1 | exact i2 | exact i3 | exact st_t186 st | exact st_t192 st | exact st_t196 st)) (by first | exact t0 | (simp only [r8, r23, r28, g3, g2, e1, cl, cl1, l6, l2, l9, nI_succK, jm_I_pI, jm_I_pL, Nat.reduceEqDiff, false_and, and_false, and_self, if_false, if_true]; first | decide | exact i1 | exact i2 | exact i3 | exact st_t186 st | exact st_t192 st | exact st_t196 st)) (by first | exact t0 | (simp only [r8, r23, r28, g3, g2, e1, cl, cl1, l6, l2, l9, nI_succK, jm_I_pI, jm_I_pL, Nat.reduceEqDiff, false_and, and_false, and_self, if_false, if_true]; first | decide | exact i1 | exact i2 | exact i3 | exact st_t186 st | exact st_t192 st | exact st_t196 st)) (by first | exact t0 | (simp only [r8, r23, r28, g3, g2, e1, cl, cl1, l6, l2, l9, nI_succK, jm_I_pI, jm_I_pL, Nat.reduceEqDiff, false_and, and_false, and_self, if_false, if_true]; first | decide | exact i1 | exact i2 | exact i3 | exact st_t186 st | exact st_t192 st | exact st_t196 st)) (by first | exact t0 | (simp only [r8, r23, r28, g3, g2, e1, cl, cl1, l6, l2, l9, nI_succK, jm_I_pI, jm_I_pL, Nat.reduceEqDiff, false_and, and_false, and_self, if_false, if_true]; first | decide | exact i1 | exact i2 | exact i3 | exact st_t186 st | exact st_t192 st | exact st_t196 st)) (by first | exact t0 | (simp only [r8, r23, r28, g3, g2, e1, cl, cl1, l6, l2, l9, nI_succK, jm_I_pI, jm_I_pL, Nat.reduceEqDiff, false_and, and_false, and_self, if_false, if_true]; first | decide | exact i1 | exact i2 | exact i3 | exact st_t186 st | exact st_t192 st | exact st_t196 st)) (by first | exact t0 | (simp only [r8, r23, r28, g3, g2, e1, cl, cl1, l6, l2, l9, nI_succK, jm_I_pI, jm_I_pL, Nat.reduceEqDiff, false_and, and_false, and_self, if_false, if_true]; first | decide | exact i1 | exact i2 | exact i3 | exact st_t186 st | exact st_t192 st | exact st_t196 st)) (by first | exact t0 | (simp only [r8, r23, r28, g3, g2, e1, cl, cl1, l6, l2, l9, nI_succK, jm_I_pI, jm_I_pL, Nat.reduceEqDiff, false_and, and_false, and_self, if_false, if_true]; first | decide | exact i1 | exact i2 | exact i3 | exact st_t186 st | exact st_t192 st | exact st_t196 st))) ?_
      simp only [r8, r23, r28, g3, g2, e1, cl, cl1, nI_succK, jm_I_pI, jm_I_pL, Nat.reduceEqDiff, false_and, and_false, and_self, if_false, if_true]
      refine jz_end ⟨q', ⟨e, by omega, by omega, by omega, fun i hi1 hi2 => ?_⟩, jN_pA (jN_pI (jN_pL g1) (by decide)) (by decide), ?_, ?_, Or.inr ?_, fun g => ?_⟩ rfl
      · by_cases gi : i = e
        · rw [gi, h4]; decide
        · by_cases gi2 : i = k0 + 1
          · rw [gi2, hn1]; decide
          · have := au_no hE (i := i - (k0 + 2)) (by omega)
            rw [show k0 + 2 + (i - (k0 + 2)) = i by omega] at this
            exact this.2.1
      · simp only [jm_I_pI, jm_I_pL, Nat.reduceEqDiff, false_and, and_false, if_false]; exact g2
      · simp only [jm_I_pI, jm_I_pL, Nat.reduceEqDiff, false_and, and_self, if_false, if_true]
      · simp only [jm_I_pI, jm_I_pL, and_self, if_true]
      · have g0 : jm_I G' 180 14 = 0 := by
          simp only [jm_I_pI, jm_I_pL, Nat.reduceEqDiff, false_and, and_false, if_false] at g
          exact g
        intro j hj
        by_cases gj : j = l
        · subst gj
          refine ⟨p, q', 1, ?_, ?_, g5, Nat.le_refl _, Nat.le_refl _, ?_⟩
          · simp only [jm_I_pI, jm_I_pL, Nat.reduceEqDiff, false_and, true_and, if_false]; rw [if_neg (by omega)]; exact g8
          · simp only [jm_I_pI, jm_I_pL, and_self, if_true]
          · rw [hg_same (K := jm_I G' 194) (V := jm_I G' 195) (q' - p) (fun i _ => by constructor <;> simp only [jm_I_pI, jm_I_pL, Nat.reduceEqDiff, false_and, if_false])]
            exact g9 g0
        · obtain ⟨a, b, h, f1, f2, f3, f4, f5, f6⟩ := g10 g0 j (by omega)
          refine ⟨a, b, h, ?_, ?_, f3, by omega, f5, ?_⟩
          · simp only [jm_I_pI, jm_I_pL, Nat.reduceEqDiff, false_and, true_and, if_false]; rw [if_neg (by omega)]; exact f1
          · simp only [jm_I_pI, jm_I_pL, Nat.reduceEqDiff, false_and, true_and, if_false]; rw [if_neg (by omega)]; exact f2
          · rw [hg_same (K := jm_I G' 194) (V := jm_I G' 195) (b - a) (fun i _ => by constructor <;> simp only [jm_I_pI, jm_I_pL, Nat.reduceEqDiff, false_and, if_false])]
            exact f6
    exact l178 (S := S) (by omega) (by omega) hE h4 hn1 (fun t ht => hv t (by omega)) hsum (e - (k0 + 2)) (k0 + 2) (by omega) (Nat.le_refl _) (by rw [Nat.sub_self]; rfl) hstart
  refine jz_eq (fun _ => en178.trans (u178_0 (st_t180 st) (by rw [r8]; decide) (by rw [r8, e1]; exact hin st) (by rw [r8]; exact st_t186 st))) ?_
  refine jz_call (p179 st (by omega) hG.2.2.1) (fun v G1 e hv1 => ?_)
  obtain rfl := e
  rcases hv1 with rfl | ⟨j, hj, rfl⟩
  · exact jz_eq (fun _ => u178_12) (jz_if (fun _ => h23 hG) (fun c => absurd (by decide) c))
  · refine jz_eq (fun _ => u178_12) (jz_if (fun _ => h23 hG) (fun _ => ?_))
    refine jz_eq (fun _ => u178_15 (st_t180 st)) ?_
    rw [e1]
    exact x177 hG.1 (by omega) (by decide) (fun G' e h0 => h23 (jB_wrong hG (by decide) e h0))
/-- all lets -/
theorem l175 {n : Nat} (hn : n ≤ 401) (hn0 : 1 ≤ n) (hlast : jm_I G2 183 (n - 1) = 0) (en : jm_I G2 180 10 = nI n) (hv : ∀ t, t < n → jm_I G2 183 t = 2 → 0 ≤ (jm_I G2 185 t).toInt ∧ (jm_I G2 185 t).toInt ≤ 9999) (hok : ∀ k, k + 1 < n → jm_I G2 183 k = 21 → lineok (jm_I G2 183) k (n - 1)) (hc : lcnt (jm_I G2 183) (n - 1) ≤ 8) : ∀ (d k p b : Nat), k + d = n → p ≤ b → b ≤ n → (∀ i, k ≤ i → i < b → jm_I G2 183 i ≠ 21) → ∀ {G : jm_H}, jB G0 G2 (lcnt (jm_I G2 183) k) p G → jz (fun G' => ∃ l p', l ≤ 8 ∧ p' ≤ 401 ∧ jB G0 G2 l p' G') jz_0 (fun Q => jm_w S 5 175 53 [.ref 180, .int (nI k)] [] G Q) := by
  have hmono : ∀ k, k < n → lcnt (jm_I G2 183) k ≤ 8 ∧ (jm_I G2 183 k = 21 → lcnt (jm_I G2 183) k < 8) := by
    intro k hk
    have m : ∀ d a, lcnt (jm_I G2 183) a ≤ lcnt (jm_I G2 183) (a + d) := by
      intro d
      induction d with
      | zero => intro a; exact Nat.le_refl _
      | succ d ih => intro a; exact Nat.le_trans (ih a) (by show _ ≤ lcnt (jm_I G2 183) (a + d) + _; omega)
    have h1 := m (n - 1 - k) k
    rw [show k + (n - 1 - k) = n - 1 by omega] at h1
    refine ⟨by omega, fun h21 => ?_⟩
    have hk1 : k + 1 < n := by
      by_cases g : k = n - 1
      · rw [g, hlast] at h21; exact absurd h21 (by decide)
      · omega
    have h2 := m (n - 1 - (k + 1)) (k + 1)
    rw [show k + 1 + (n - 1 - (k + 1)) = n - 1 by omega] at h2
    have h3 : lcnt (jm_I G2 183) (k + 1) = lcnt (jm_I G2 183) k + 1 := by
      show _ + (if jm_I G2 183 k = 21 then 1 else 0) = _
      rw [if_pos h21]
    omega
  intro d
  induction d with
  | zero =>
    intro k p b hd hp hbn hb G hG
    refine jz_eq (fun _ => u175_53 (st_t180 (jN_st hG.1))) ?_
    rw [hG.1.2.2.1, en]
    refine jz_if (fun _ => ?_) (fun c => absurd ((nI_leI (by omega) (by omega)).mpr (by omega)) c)
    have hk : k = (n - 1) + 1 := by omega
    refine jz_eq (fun _ => u175_83) (jz_end ⟨_, p, ?_, by omega, hG⟩ rfl)
    rw [hk]
    show lcnt (jm_I G2 183) (n - 1) + (if jm_I G2 183 (n - 1) = 21 then 1 else 0) ≤ 8
    rw [hlast, if_neg (by decide)]
    exact hc
  | succ d ih =>
    intro k p b hd hp hbn hb G hG
    have st := jN_st hG.1
    have r5 := st_r180_5 st
    refine jz_eq (fun _ => u175_53 (st_t180 st)) ?_
    rw [hG.1.2.2.1, en]
    refine jz_if (fun c => absurd ((nI_leI (by omega) (by omega)).mp c) (by omega)) (fun _ => ?_)
    refine jz_eq (fun _ => u175_61 (st_t180 st) (by rw [r5]; decide) (by rw [r5, st_l183 st]; exact nI_inK (by omega) (by decide)) (by rw [r5]; decide) (by rw [r5]; exact st_t183 st)) ?_
    rw [r5, nI_cl (by omega), jN_kd hG.1]
    by_cases h21 : jm_I G2 183 k = 21
    · refine jz_if (fun c => absurd h21 c) (fun _ => ?_)
      have hk1 : k + 1 < n := by
        by_cases g : k = n - 1
        · rw [g, hlast] at h21; exact absurd h21 (by decide)
        · omega
      refine jz_eq (fun _ => u175_72 (st_t180 st)) (jz_call (z178 ((hmono k (by omega)).2 h21) (n := n - 1) (by omega) (by omega) (by
        have : ¬ k < b := fun q => hb k (Nat.le_refl k) q h21
        omega) (fun t ht => hv t (by omega)) (hok k hk1 h21) hG) (fun v G hG hv' => ?_))
      obtain rfl := hv'
      obtain ⟨p', ⟨e, f1, f2, f3, f4⟩, hB⟩ := hG
      refine jz_eq (fun _ => u175_77) ?_
      rw [nI_succK]
      refine ih (k + 1) p' e (by omega) f3 (by omega) (fun i h1 h2 => f4 i (by omega) (by omega)) ?_
      have : lcnt (jm_I G2 183) (k + 1) = lcnt (jm_I G2 183) k + 1 := by
        show _ + (if jm_I G2 183 k = 21 then 1 else 0) = _
        rw [if_pos h21]
      rw [this]
      exact hB
    · refine jz_if (fun _ => ?_) (fun c => absurd (fun q => h21 q) c)
      refine jz_eq (fun _ => u175_77) ?_
      rw [nI_succK]
      refine ih (k + 1) p b (by omega) hp hbn (fun i h1 h2 => hb i (by omega) h2) ?_
      have : lcnt (jm_I G2 183) (k + 1) = lcnt (jm_I G2 183) k := by
        show _ + (if jm_I G2 183 k = 21 then 1 else 0) = _
        rw [if_neg h21, Nat.add_zero]
      rw [this]
      exact hG
end MTOK
