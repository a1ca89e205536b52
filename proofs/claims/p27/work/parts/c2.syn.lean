set_option maxRecDepth 20000
/-! the reference's syntax: comes to an end, and what it lets pass runs through an automaton -/
/-- the last token's kind (99: none yet), and what is open: its kind, its parts -/
def au_d (s : Int32 × List (Int32 × Nat)) (k : Int32) : Option (Int32 × List (Int32 × Nat)) :=
  if s.1 = 22 ∨ s.1 = 23 then (if k = 9 then some (9, (s.1, 1) :: s.2) else none)
  else if s.1 = 1 ∨ s.1 = 2 ∨ s.1 = 10 then
    (if k = 5 ∨ k = 6 ∨ k = 7 ∨ k = 8 then some (k, s.2)
     else match s.2 with
      | [] => none
      | o :: r => if k = 11 ∧ o.1 = 23 then some (11, (o.1, o.2 + 1) :: r) else if k = 10 ∧ (o.1 = 23 → o.2 % 2 = 0) then some (10, r) else none)
  else (if k = 6 ∧ (s.1 = 99 ∨ s.1 = 9 ∨ s.1 = 11) then some (6, s.2) else if k = 9 then some (9, (0, 1) :: s.2) else if k = 22 ∨ k = 23 ∨ k = 1 ∨ k = 2 then some (k, s.2) else none)
def au (kd : Nat → Int32) (t0 : Nat) : Nat → Option (Int32 × List (Int32 × Nat))
  | 0 => some (99, [])
  | n + 1 => (au kd t0 n).bind (fun s => au_d s (kd (t0 + n)))
def au_acc (s : Int32 × List (Int32 × Nat)) : Prop := (s.1 = 1 ∨ s.1 = 2 ∨ s.1 = 10) ∧ s.2 = []
theorem au_next {kd : Nat → Int32} {t0 t : Nat} {s s' : Int32 × List (Int32 × Nat)} (h0 : t0 ≤ t) (h : au kd t0 (t - t0) = some s) (hd : au_d s (kd t) = some s') : au kd t0 (t + 1 - t0) = some s' := by
  rw [show t + 1 - t0 = (t - t0) + 1 by omega]
  show (au kd t0 (t - t0)).bind _ = _
  rw [h]
  show au_d s (kd (t0 + (t - t0))) = some s'
  rw [show t0 + (t - t0) = t by omega]
  exact hd
/-- what is open, as the reference holds it -/
def opm (G : jm_H) (c : Nat) : List (Int32 × Nat) → Prop
  | [] => True
  | o :: r => jm_I G 197 r.length = o.1 ∧ jm_I G 198 r.length = nI o.2 ∧ o.2 ≤ c ∧ opm G c r
theorem opm_same {G G' : jm_H} {c c' : Nat} (hc : c ≤ c') (h1 : jm_I G' 197 = jm_I G 197) (h2 : jm_I G' 198 = jm_I G 198) : ∀ l, opm G c l → opm G' c' l
  | [], _ => trivial
  | o :: r, h => ⟨by rw [h1]; exact h.1, by rw [h2]; exact h.2.1, Nat.le_trans h.2.2.1 hc, opm_same hc h1 h2 r h.2.2.2⟩
theorem opm_put {G : jm_H} {m c : Nat} {a b : Int32} : ∀ l : List (Int32 × Nat), l.length ≤ m → opm G c l → opm (jm_pI (jm_pI G 197 m a) 198 m b) c l
  | [], _, _ => trivial
  | o :: r, hl, h => by
    have hl' : r.length < m := hl
    refine ⟨?_, ?_, h.2.2.1, opm_put r (by omega) h.2.2.2⟩
    · rw [jm_I_pI, if_neg (by omega), jm_I_pI, if_neg (by omega)]; exact h.1
    · rw [jm_I_pI, if_neg (by omega), jm_I_pI, if_neg (by omega)]; exact h.2.1
theorem opm_part {G : jm_H} {m c : Nat} {b : Int32} : ∀ l : List (Int32 × Nat), l.length ≤ m → opm G c l → opm (jm_pI G 198 m b) c l
  | [], _, _ => trivial
  | o :: r, hl, h => by
    have hl' : r.length < m := hl
    refine ⟨?_, ?_, h.2.2.1, opm_part r (by omega) h.2.2.2⟩
    · rw [jm_I_pI, if_neg (by omega)]; exact h.1
    · rw [jm_I_pI, if_neg (by omega)]; exact h.2.1
/-- while the syntax is held against the tokens -/
def jX (G0 G1 G : jm_H) : Prop := jY G0 G ∧ jf_fr (fun r => r = 180 ∨ r = 197 ∨ r = 198) G1 G ∧ jm_I G 180 10 = jm_I G1 180 10 ∧ 0 ≤ (jm_I G 180 14).toInt
def jXt (G0 G1 : jm_H) (t L : Nat) (G : jm_H) : Prop := jX G0 G1 G ∧ jm_I G 180 11 = nI t ∧ t ≤ 400 ∧ jm_I G 180 12 = 0 ∧ jm_I G 180 18 = nI L
def jXf (G0 G1 G : jm_H) : Prop := jX G0 G1 G ∧ (∃ t : Nat, t ≤ 400 ∧ jm_I G 180 11 = nI t) ∧ 0 < (jm_I G 180 12).toInt
theorem jX_pI {G0 G1 G : jm_H} {k : Nat} {v : Int32} (h : jX G0 G1 G) (hk : k ≠ 2 ∧ k ≠ 21 ∧ k ≠ 25 ∧ k ≠ 39 ∧ k ≠ 40 ∧ k ≠ 10 ∧ k ≠ 14) : jX G0 G1 (jm_pI G 180 k v) := ⟨jY_pI h.1 (by omega), jf_fr_trans h.2.1 (jf_fr_pI (Or.inl rfl)), by rw [jm_I_pI, if_neg (by omega)]; exact h.2.2.1, by rw [jm_I_pI, if_neg (by omega)]; exact h.2.2.2⟩
theorem jX_pA {G0 G1 G : jm_H} {r k : Nat} {v : Int32} (h : jX G0 G1 G) (hr : r = 197 ∨ r = 198) : jX G0 G1 (jm_pI G r k v) := ⟨jY_pI h.1 (by omega), jf_fr_trans h.2.1 (jf_fr_pI (Or.inr hr)), by rw [jm_I_pI, if_neg (by omega)]; exact h.2.2.1, by rw [jm_I_pI, if_neg (by omega)]; exact h.2.2.2⟩
theorem jX_kd {G0 G1 G : jm_H} (h : jX G0 G1 G) : jm_I G 183 = jm_I G1 183 := (h.2.1.2.2.2.2 183 (by decide)).1
theorem jX_st {G0 G1 G : jm_H} (h : jX G0 G1 G) : jm_st G := h.1.2.1
section SYN
variable {S : Option (Nat × (Nat → Int32))} {G0 G1 : jm_H} {K : jm_H → Prop} {R : Option Value → Prop} {kont : Option Value → jm_H → (Option Value → jm_H → Prop) → Prop}
theorem c169 {G : jm_H} (st : jm_st G) {t : Nat} (ht : t ≤ 400) (et : jm_I G 180 11 = nI t) {k : Int32} {Q : Option Value → jm_H → Prop} : jm_c S 169 [.ref 180, .int k] G Q = Q (some (.int (if jm_I G 180 12 = 0 ∧ jm_I G 183 t = k then 1 else 0))) G := by
  have r5 := st_r180_5 st
  have t0 := st_t180 st
  rw [en169, u169_0 t0]
  by_cases h : jm_I G 180 12 = 0
  · rw [if_neg (fun g => g h), u169_7 t0 (by rw [r5]; decide) (by rw [r5, st_l183 st, et]; exact nI_inK (by omega) (by decide)) (by rw [r5]; decide) (by rw [r5]; exact st_t183 st), r5, et, nI_cl (by omega)]
    by_cases h2 : jm_I G 183 t = k
    · rw [if_neg (fun g => g h2), u169_20, u169_25 (Or.inr rfl), if_pos ⟨h, h2⟩]
    · rw [if_pos h2, u169_24, u169_25 (Or.inl rfl), if_neg (fun g => h2 g.2)]
  · rw [if_pos h, u169_24, u169_25 (Or.inl rfl), if_neg (fun g => h g.1)]
theorem c171 {G : jm_H} (st : jm_st G) {t : Nat} (ht : t ≤ 400) (et : jm_I G 180 11 = nI t) (h0 : jm_I G 180 12 = 0) {k : Int32} {Q : Option Value → jm_H → Prop} : jm_c S 171 [.ref 180, .int k] G Q = Q none (jm_pI (jm_pI G 180 12 k) 180 13 (jm_I G 184 t)) := by
  have r6 := st_r180_6 st
  have t0 := st_t180 st
  have e : jm_I (jm_pI G 180 12 k) 180 11 = nI t := by rw [jm_I_pI, if_neg (by decide)]; exact et
  rw [en171, u171_0 t0, h0, if_pos (by decide), u171_8 t0 (by rw [r6]; decide) (by rw [r6, st_l184 st, e]; exact nI_inK (by omega) (by decide)) (by rw [r6]; decide) (by rw [r6]; exact st_t184 st), r6, e, nI_cl (by omega), jm_I_pI, if_neg (by omega)]
theorem c171F {G : jm_H} (st : jm_st G) (h0 : 0 < (jm_I G 180 12).toInt) {k : Int32} {Q : Option Value → jm_H → Prop} : jm_c S 171 [.ref 180, .int k] G Q = Q none G := by
  rw [en171, u171_0 (st_t180 st), if_neg (fun g => by have := Int32.le_iff_toInt_le.mp g; rw [i32_0] at this; omega), u171_7]
theorem jXf_fail {G : jm_H} {t L : Nat} {k v : Int32} (h : jXt G0 G1 t L G) (hk : 0 < k.toInt) : jXf G0 G1 (jm_pI (jm_pI G 180 12 k) 180 13 v) := by
  refine ⟨jX_pI (jX_pI h.1 (by decide)) (by decide), ⟨t, h.2.2.1, ?_⟩, ?_⟩
  · rw [jm_I_pI, if_neg (by decide), jm_I_pI, if_neg (by decide)]; exact h.2.1
  · rw [jm_I_pI, if_neg (by decide), jm_I_pI, if_pos ⟨rfl, rfl⟩]; exact hk
theorem jXt_on {G : jm_H} {t L : Nat} (h : jXt G0 G1 t L G) (ht : t < 400) : jXt G0 G1 (t + 1) L (jm_pI G 180 11 (nI (t + 1))) :=
  ⟨jX_pI h.1 (by decide), by rw [jm_I_pI, if_pos ⟨rfl, rfl⟩], by omega, by rw [jm_I_pI, if_neg (by decide)]; exact h.2.2.2.1, by rw [jm_I_pI, if_neg (by decide)]; exact h.2.2.2.2⟩
/-- is it of this kind -/
theorem x169 {G : jm_H} {t L : Nat} {k : Int32} (hG : jXt G0 G1 t L G) (h1 : jm_I G1 183 t = k → jz K R (fun Q => kont (some (.int 1)) G Q)) (h0 : jm_I G1 183 t ≠ k → jz K R (fun Q => kont (some (.int 0)) G Q)) : jz K R (fun Q => jm_c S 169 [.ref 180, .int k] G (fun v G => kont v G Q)) := by
  refine jz_eq (fun _ => c169 (jX_st hG.1) hG.2.2.1 hG.2.1) ?_
  rw [jX_kd hG.1]
  by_cases h : jm_I G1 183 t = k
  · rw [if_pos ⟨hG.2.2.2.1, h⟩]; exact h1 h
  · rw [if_neg (fun g => h g.2)]; exact h0 h
/-- a fault -/
theorem x171 {G : jm_H} {t L : Nat} {k : Int32} (hG : jXt G0 G1 t L G) (hk : 0 < k.toInt) (h : ∀ G', jXf G0 G1 G' → jm_I G' 180 31 = jm_I G 180 31 → jz K R (fun Q => kont none G' Q)) : jz K R (fun Q => jm_c S 171 [.ref 180, .int k] G (fun v G => kont v G Q)) :=
  jz_eq (fun _ => c171 (jX_st hG.1) hG.2.2.1 hG.2.1 hG.2.2.2.1) (h _ (jXf_fail hG hk) (by rw [jm_I_pI, if_neg (by decide), jm_I_pI, if_neg (by decide)]))
/-- on by a token -/
theorem x170 {G : jm_H} {t L : Nat} (hG : jXt G0 G1 t L G) (h1 : t < 400 → jz K R (fun Q => kont none (jm_pI G 180 11 (nI (t + 1))) Q)) (h : ∀ G', jXf G0 G1 G' → jm_I G' 180 31 = jm_I G 180 31 → jz K R (fun Q => kont none G' Q)) : jz K R (fun Q => jm_c S 170 [.ref 180] G (fun v G => kont v G Q)) := by
  have t0 := st_t180 (jX_st hG.1)
  refine jz_eq (fun _ => en170.trans (u170_0 t0)) ?_
  rw [hG.2.1]
  refine jz_if (fun c => ?_) (fun c => ?_)
  · have hlt : t < 400 := by
      have : t ≠ 400 := fun q => c (by rw [q]; rfl)
      have := hG.2.2.1
      omega
    refine jz_eq (fun _ => u170_18 t0) ?_
    rw [hG.2.1, nI_succK]
    exact jz_eq (fun _ => u170_28) (h1 hlt)
  · refine jz_eq (fun _ => u170_10 t0) (x171 hG (by decide) (fun G' hG' e' => ?_))
    exact jz_eq (fun _ => u170_15.trans u170_28) (h G' hG' e')
/-- it must be of this kind, and on -/
theorem x168 {G : jm_H} {t L : Nat} {k : Int32} (hG : jXt G0 G1 t L G) (h1 : t < 400 → jm_I G1 183 t = k → jz K R (fun Q => kont none (jm_pI G 180 11 (nI (t + 1))) Q)) (h : ∀ G', jXf G0 G1 G' → jm_I G' 180 31 = jm_I G 180 31 → jz K R (fun Q => kont none G' Q)) : jz K R (fun Q => jm_c S 168 [.ref 180, .int k] G (fun v G => kont v G Q)) := by
  have t0 := st_t180 (jX_st hG.1)
  refine jz_eq (fun _ => en168.trans (u168_0 t0)) (x169 hG (fun e => ?_) (fun _ => ?_))
  · refine jz_eq (fun _ => u168_5) (jz_if (fun c => absurd c (by decide)) (fun _ => ?_))
    refine jz_eq (fun _ => u168_8 t0) (x170 hG (fun ht => ?_) (fun G' hG' e' => ?_))
    · exact jz_eq (fun _ => u168_12.trans u168_20) (h1 ht e)
    · exact jz_eq (fun _ => u168_12.trans u168_20) (h G' hG' e')
  · refine jz_eq (fun _ => u168_5) (jz_if (fun _ => ?_) (fun c => absurd rfl c))
    refine jz_eq (fun _ => u168_15 t0) (x171 hG (by decide) (fun G' hG' e' => ?_))
    exact jz_eq (fun _ => u168_20) (h G' hG' e')
theorem jXf_0 {G : jm_H} (h : jXf G0 G1 G) : ¬ jm_I G 180 12 = 0 := fun g => by
  have := h.2.2
  rw [g, i32_0] at this
  omega
theorem f169 {G : jm_H} {k : Int32} (hG : jXf G0 G1 G) (h0 : jz K R (fun Q => kont (some (.int 0)) G Q)) : jz K R (fun Q => jm_c S 169 [.ref 180, .int k] G (fun v G => kont v G Q)) := by
  obtain ⟨t, ht, et⟩ := hG.2.1
  refine jz_eq (fun _ => c169 (jX_st hG.1) ht et) ?_
  rw [if_neg (fun g => jXf_0 hG g.1)]
  exact h0
theorem f171 {G : jm_H} {k : Int32} (hG : jXf G0 G1 G) (h0 : jz K R (fun Q => kont none G Q)) : jz K R (fun Q => jm_c S 171 [.ref 180, .int k] G (fun v G => kont v G Q)) := jz_eq (fun _ => c171F (jX_st hG.1) hG.2.2) h0
theorem f168 {G : jm_H} {k : Int32} (hG : jXf G0 G1 G) (h0 : jz K R (fun Q => kont none G Q)) : jz K R (fun Q => jm_c S 168 [.ref 180, .int k] G (fun v G => kont v G Q)) := by
  have t0 := st_t180 (jX_st hG.1)
  refine jz_eq (fun _ => en168.trans (u168_0 t0)) (f169 hG ?_)
  refine jz_eq (fun _ => u168_5) (jz_if (fun _ => ?_) (fun c => absurd rfl c))
  refine jz_eq (fun _ => u168_15 t0) (f171 hG ?_)
  exact jz_eq (fun _ => u168_20) h0
theorem f173 {G : jm_H} (hG : jXf G0 G1 G) : jz (jXf G0 G1) jz_0 (fun Q => jm_c S 173 [.ref 180] G Q) := by
  have t0 := st_t180 (jX_st hG.1)
  refine jz_eq (fun _ => en173.trans ((u173_0 t0).trans (u173_9 t0))) (jz_if (fun _ => ?_) (fun c => ?_))
  · obtain ⟨t, ht, et⟩ := hG.2.1
    exact jz_eq (fun _ => u173_308) (jz_end ⟨jX_pI hG.1 (by decide), ⟨t, ht, by rw [jm_I_pI, if_neg (by decide)]; exact et⟩, by rw [jm_I_pI, if_neg (by decide)]; exact hG.2.2⟩ rfl)
  · rw [jm_I_pI, if_neg (by decide)] at c
    exact absurd (jXf_0 hG) c
/-- within an expression: so far it runs through -/
def jX9 (G0 G1 : jm_H) (t0 t L : Nat) (s : Int32 × List (Int32 × Nat)) (G : jm_H) : Prop := jXt G0 G1 t L G ∧ t0 ≤ t ∧ au (jm_I G1 183) t0 (t - t0) = some s ∧ jm_I G 180 31 = nI s.2.length ∧ s.2.length ≤ 8 ∧ opm G (t + 1) s.2
/-- wants, begins: by the last token -/
def au_w (l x1 x2 : Int32) : Prop := (l ≠ 22 ∧ l ≠ 23) ∧ ((l = 1 ∨ l = 2 ∨ l = 10) ∧ x1 = 0 ∨ ¬ (l = 1 ∨ l = 2 ∨ l = 10) ∧ x1 = 1 ∧ ((l = 99 ∨ l = 9 ∨ l = 11) ∧ x2 = 1 ∨ ¬ (l = 99 ∨ l = 9 ∨ l = 11) ∧ x2 = 0))
theorem aw_op {k : Int32} (h : k = 5 ∨ k = 6 ∨ k = 7 ∨ k = 8) : au_w k 1 0 := by
  rcases h with rfl | rfl | rfl | rfl <;> exact ⟨by decide, Or.inr ⟨by decide, rfl, Or.inr ⟨by decide, rfl⟩⟩⟩
theorem aw_12 {k x2 : Int32} (h : k = 1 ∨ k = 2) : au_w k 0 x2 := by
  rcases h with rfl | rfl <;> exact ⟨by decide, Or.inl ⟨by decide, rfl⟩⟩
theorem aw_10 {x1 x2 : Int32} (h : x1 = 0) : au_w 10 x1 x2 := ⟨by decide, Or.inl ⟨Or.inr (Or.inr rfl), h⟩⟩
theorem aw_11 : au_w 11 1 1 := ⟨by decide, Or.inr ⟨by decide, rfl, Or.inl ⟨Or.inr (Or.inr rfl), rfl⟩⟩⟩
theorem aw_9 : au_w 9 1 1 := ⟨by decide, Or.inr ⟨by decide, rfl, Or.inl ⟨Or.inr (Or.inl rfl), rfl⟩⟩⟩
theorem aw_99 : au_w 99 1 1 := ⟨by decide, Or.inr ⟨by decide, rfl, Or.inl ⟨Or.inl rfl, rfl⟩⟩⟩
/-- an expression has passed, or a fault -/
def jXe (G0 G1 : jm_H) (t0 L : Nat) (G : jm_H) : Prop := jXf G0 G1 G ∨ ∃ t s, jXt G0 G1 t L G ∧ t0 ≤ t ∧ au (jm_I G1 183) t0 (t - t0) = some s ∧ au_acc s
theorem jX9_on {G : jm_H} {t0 t L : Nat} {s s' : Int32 × List (Int32 × Nat)} (h : jX9 G0 G1 t0 t L s G) (ht : t < 400) (hd : au_d s (jm_I G1 183 t) = some s') (h2 : s'.2 = s.2) : jX9 G0 G1 t0 (t + 1) L s' (jm_pI G 180 11 (nI (t + 1))) := by
  obtain ⟨h1, ha, hb, hc, hd', he⟩ := h
  refine ⟨jXt_on h1 ht, by omega, au_next ha hb hd, ?_, by rw [h2]; exact hd', ?_⟩
  · rw [h2, jm_I_pI, if_neg (by decide)]; exact hc
  · rw [h2]; exact opm_same (by omega) (by funext k; rw [jm_I_pI, if_neg (by omega)]) (by funext k; rw [jm_I_pI, if_neg (by omega)]) _ he
/-- opens, and on -/
theorem x174 {G : jm_H} {t0 t L : Nat} {s s' : Int32 × List (Int32 × Nat)} {k : Int32} (hG : jX9 G0 G1 t0 t L s G) (hd : au_d s (jm_I G1 183 t) = some s') (h2 : s'.2 = (k, 1) :: s.2) (h1 : ∀ G', t < 400 → jX9 G0 G1 t0 (t + 1) L s' G' → jz K R (fun Q => kont none G' Q)) (h : ∀ G', jXf G0 G1 G' → jz K R (fun Q => kont none G' Q)) : jz K R (fun Q => jm_c S 174 [.ref 180, .int k] G (fun v G => kont v G Q)) := by
  have st := jX_st hG.1.1
  have t0' := st_t180 st
  have r1 := st_r180_32 st
  have r2 := st_r180_33 st
  obtain ⟨hX, ha, hb, hc, hd', he⟩ := hG
  refine jz_eq (fun _ => en174.trans (u174_0 t0')) ?_
  rw [hc]
  refine jz_if (fun c => ?_) (fun _ => ?_)
  · have hlt : s.2.length < 8 := by
      have : s.2.length ≠ 8 := fun q => c (by rw [q]; rfl)
      omega
    have cl := nI_cl (k := s.2.length) (by omega)
    have hix : ¬ (nI s.2.length < 0 ∨ 8 ≤ s.2.length) := by
      have h := nI_inK (k := s.2.length) (n := 8) hlt (by decide)
      rw [cl] at h
      exact h
    have l7 := st_l197 st
    have l8 := st_l198 st
    refine jz_eq (fun _ => u174_15 (by first | exact t0' | (simp only [r1, r2, hc, cl, l7, l8, jm_I_pI, Nat.reduceEqDiff, false_and, if_false]; first | decide | exact hix | exact st_t197 st | exact st_t198 st)) (by first | exact t0' | (simp only [r1, r2, hc, cl, l7, l8, jm_I_pI, Nat.reduceEqDiff, false_and, if_false]; first | decide | exact hix | exact st_t197 st | exact st_t198 st)) (by first | exact t0' | (simp only [r1, r2, hc, cl, l7, l8, jm_I_pI, Nat.reduceEqDiff, false_and, if_false]; first | decide | exact hix | exact st_t197 st | exact st_t198 st)) (by first | exact t0' | (simp only [r1, r2, hc, cl, l7, l8, jm_I_pI, Nat.reduceEqDiff, false_and, if_false]; first | decide | exact hix | exact st_t197 st | exact st_t198 st)) (by first | exact t0' | (simp only [r1, r2, hc, cl, l7, l8, jm_I_pI, Nat.reduceEqDiff, false_and, if_false]; first | decide | exact hix | exact st_t197 st | exact st_t198 st)) (by first | exact t0' | (simp only [r1, r2, hc, cl, l7, l8, jm_I_pI, Nat.reduceEqDiff, false_and, if_false]; first | decide | exact hix | exact st_t197 st | exact st_t198 st)) (by first | exact t0' | (simp only [r1, r2, hc, cl, l7, l8, jm_I_pI, Nat.reduceEqDiff, false_and, if_false]; first | decide | exact hix | exact st_t197 st | exact st_t198 st))) ?_
    simp only [r1, r2, hc, cl, jm_I_pI, Nat.reduceEqDiff, false_and, if_false, nI_succK]
    have k2 : jXt G0 G1 t L (jm_pI (jm_pI (jm_pI G 197 s.2.length k) 198 s.2.length 1) 180 31 (nI (s.2.length + 1))) := by
      refine ⟨jX_pI (jX_pA (jX_pA hX.1 (Or.inl rfl)) (Or.inr rfl)) (by decide), ?_, hX.2.2.1, ?_, ?_⟩
      · simp only [jm_I_pI, Nat.reduceEqDiff, false_and, and_false, if_false]; exact hX.2.1
      · simp only [jm_I_pI, Nat.reduceEqDiff, false_and, and_false, if_false]; exact hX.2.2.2.1
      · simp only [jm_I_pI, Nat.reduceEqDiff, false_and, and_false, if_false]; exact hX.2.2.2.2
    refine x170 k2 (fun ht => ?_) (fun G' hG' _ => jz_eq (fun _ => u174_49) (h G' hG'))
    refine jz_eq (fun _ => u174_49) (h1 _ ht ⟨jXt_on k2 ht, by omega, au_next ha hb hd, ?_, ?_, ?_⟩)
    · rw [h2, jm_I_pI, if_neg (by decide), jm_I_pI, if_pos ⟨rfl, rfl⟩]; rfl
    · rw [h2]; exact hlt
    · rw [h2]
      refine ⟨?_, ?_, by show 1 ≤ _; omega, ?_⟩
      · simp only [jm_I_pI, Nat.reduceEqDiff, false_and, if_false, and_self, if_true]
      · simp only [jm_I_pI, Nat.reduceEqDiff, false_and, if_false, and_self, if_true]; rfl
      · refine opm_same (by omega) ?_ ?_ _ (opm_put s.2 (Nat.le_refl _) he (a := k) (b := 1))
        · funext j; simp only [jm_I_pI, Nat.reduceEqDiff, false_and, if_false]
        · funext j; simp only [jm_I_pI, Nat.reduceEqDiff, false_and, if_false]
  · refine jz_eq (fun _ => u174_9 t0') (x171 hX (by decide) (fun G' hG' _ => ?_))
    exact jz_eq (fun _ => u174_14) (h G' hG')
theorem par2 : ∀ p, p < 500 → (nI p - nI p / 2 * 2 = (1 : Int32) ↔ p % 2 = 1) := by decide +kernel
/-- an expression -/
theorem l173 {t0 L : Nat} : ∀ (d t : Nat), 401 ≤ t + d → ∀ {s : Int32 × List (Int32 × Nat)} {x1 x2 : Int32} {w3 : Value} {G : jm_H}, au_w s.1 x1 x2 → jX9 G0 G1 t0 t L s G → jz (jXe G0 G1 t0 L) jz_0 (fun Q => jm_w S 4 173 9 [.ref 180, .int x1, .int x2, w3] [] G Q)
  | 0, t, hd, s, x1, x2, w3, G, hw, hG => by have := hG.1.2.2.1; omega
  | d + 1, t, hd, s, x1, x2, w3, G, hw, hG => by
    obtain ⟨l, o⟩ := s
    have hX := hG.1
    have st := jX_st hX.1
    have t0' := st_t180 st
    obtain ⟨⟨n22, n23⟩, hw⟩ := hw
    dsimp only at n22 n23 hw
    have kd := jX_kd hX.1
    have r5 := st_r180_5 st
    -- a fault ends it
    have hF : ∀ {G : jm_H} {x1 x2 : Int32} {w3 : Value}, jXf G0 G1 G → jz (jXe G0 G1 t0 L) jz_0 (fun Q => jm_w S 4 173 9 [.ref 180, .int x1, .int x2, w3] [] G Q) := by
      intro G x1 x2 w3 hG
      refine jz_eq (fun _ => u173_9 (st_t180 (jX_st hG.1))) (jz_if (fun _ => ?_) (fun c => absurd (jXf_0 hG) c))
      exact jz_eq (fun _ => u173_308) (jz_end (Or.inl hG) rfl)
    have on : ∀ {G : jm_H} {x1 x2 : Int32} {w3 : Value} {s : Int32 × List (Int32 × Nat)}, au_w s.1 x1 x2 → jX9 G0 G1 t0 (t + 1) L s G → jz (jXe G0 G1 t0 L) jz_0 (fun Q => jm_w S 4 173 9 [.ref 180, .int x1, .int x2, w3] [] G Q) := fun hw hG => l173 d (t + 1) (by omega) hw hG
    refine jz_eq (fun _ => u173_9 t0') (jz_if (fun c => absurd hX.2.2.2.1 c) (fun _ => ?_))
    -- nothing is wanted
    have h165 : (l = 1 ∨ l = 2 ∨ l = 10) → x1 = 0 → jz (jXe G0 G1 t0 L) jz_0 (fun Q => jm_w S 4 173 165 [.ref 180, .int x1, .int x2, w3] [] G Q) := by
      intro hl hx1
      have d5 : ∀ k : Int32, (k = 5 ∨ k = 6 ∨ k = 7 ∨ k = 8) → au_d (l, o) k = some (k, o) := fun k hk => by
        unfold au_d
        dsimp only
        rw [if_neg (fun g => g.elim n22 n23), if_pos hl, if_pos hk]
      have h200 : (jm_I G1 183 t = 5 ∨ jm_I G1 183 t = 6 ∨ jm_I G1 183 t = 7 ∨ jm_I G1 183 t = 8) → jz (jXe G0 G1 t0 L) jz_0 (fun Q => jm_w S 4 173 200 [.ref 180, .int x1, .int x2, w3] [] G Q) := by
        intro hk
        refine jz_eq (fun _ => u173_200 t0') (x170 hX (fun ht => ?_) (fun G' hG' _ => jz_eq (fun _ => u173_204) (hF hG')))
        refine jz_eq (fun _ => u173_204) (on (s := (jm_I G1 183 t, o)) (aw_op hk) (jX9_on hG ht (d5 _ hk) rfl))
      have h289 : (∀ q r, o = q :: r → q.1 = 23 → q.2 % 2 = 0) → o ≠ [] → jz (jXe G0 G1 t0 L) jz_0 (fun Q => jm_w S 4 173 289 [.ref 180, .int x1, .int x2, w3] [] G Q) := by
        intro hp hne
        match o, hne, hp, hG, d5 with
        | q :: r, _, hp, hG, d5 =>
          refine jz_eq (fun _ => u173_289 t0') (x168 hX (fun ht e => ?_) (fun G' hG' _ => ?_))
          · have e31 : jm_I (jm_pI G 180 11 (nI (t + 1))) 180 31 = nI (r.length + 1) := by rw [jm_I_pI, if_neg (by decide)]; exact hG.2.2.2.1
            have hlen : r.length + 1 ≤ 8 := hG.2.2.2.2.1
            refine jz_eq (fun _ => u173_295 t0') ?_
            rw [e31]
            have em : nI (r.length + 1) - (1 : Int32) = nI r.length := by rw [show (1 : Int32) = nI 1 from rfl, jI_n, jI_n, jI_sub, jI_n, show ((r.length + 1 : Nat) : Int) - ((1 : Nat) : Int) = (r.length : Int) by omega]
            rw [em]
            have hd : au_d (l, q :: r) (jm_I G1 183 t) = some (10, r) := by
              rw [e]
              unfold au_d
              dsimp only
              rw [if_neg (fun g => g.elim n22 n23), if_pos hl, if_neg (by decide), if_neg (fun g => absurd g.1 (by decide)), if_pos ⟨rfl, hp q r rfl⟩]
            have k1 := jXt_on hX ht
            refine on (s := (10, r)) (aw_10 hx1) ⟨⟨jX_pI k1.1 (by decide), ?_, k1.2.2.1, ?_, ?_⟩, by have := hG.2.1; omega, au_next hG.2.1 hG.2.2.1 hd, ?_, by show r.length ≤ 8; omega, ?_⟩
            · rw [jm_I_pI, if_neg (by decide)]; exact k1.2.1
            · rw [jm_I_pI, if_neg (by decide)]; exact k1.2.2.2.1
            · rw [jm_I_pI, if_neg (by decide)]; exact k1.2.2.2.2
            · rw [jm_I_pI, if_pos ⟨rfl, rfl⟩]
            · exact opm_same (by omega) (by funext j; simp only [jm_I_pI, Nat.reduceEqDiff, false_and, if_false]) (by funext j; simp only [jm_I_pI, Nat.reduceEqDiff, false_and, if_false]) _ hG.2.2.2.2.2.2.2.2
          · refine jz_eq (fun _ => u173_295 (st_t180 (jX_st hG'.1))) (hF ?_)
            obtain ⟨t, ht, et⟩ := hG'.2.1
            exact ⟨jX_pI hG'.1 (by decide), ⟨t, ht, by rw [jm_I_pI, if_neg (by decide)]; exact et⟩, by rw [jm_I_pI, if_neg (by decide)]; exact hG'.2.2⟩
      have h261 : ∀ q r, o = q :: r → q.1 = 23 → jz (jXe G0 G1 t0 L) jz_0 (fun Q => jm_w S 4 173 261 [.ref 180, .int x1, .int x2, w3] [] G Q) := by
        intro q r eo hq
        subst eo
        refine jz_eq (fun _ => u173_261 t0') (x168 hX (fun ht e => ?_) (fun G' hG' e' => ?_))
        · have k1 := jXt_on hX ht
          have st1 := jX_st k1.1
          have hlen : r.length + 1 ≤ 8 := hG.2.2.2.2.1
          have e31 : jm_I (jm_pI G 180 11 (nI (t + 1))) 180 31 = nI (r.length + 1) := by rw [jm_I_pI, if_neg (by decide)]; exact hG.2.2.2.1
          have em : nI (r.length + 1) - (1 : Int32) = nI r.length := by rw [show (1 : Int32) = nI 1 from rfl, jI_n, jI_n, jI_sub, jI_n, show ((r.length + 1 : Nat) : Int) - ((1 : Nat) : Int) = (r.length : Int) by omega]
          have r33 := st_r180_33 st1
          have hix : ¬ (nI r.length < 0 ∨ 8 ≤ (nI r.length).toNatClampNeg) := nI_inK (by omega) (by decide)
          have e98 : jm_I (jm_pI G 180 11 (nI (t + 1))) 198 r.length = nI q.2 := by rw [jm_I_pI, if_neg (by omega)]; exact hG.2.2.2.2.2.2.1
          refine jz_eq (fun _ => u173_267 (st_t180 st1) (by rw [r33]; decide) (by rw [e31, em, r33, st_l198 st1]; exact hix) (by rw [r33]; decide) (by rw [r33]; exact st_t198 st1)) ?_
          rw [e31, em, r33, nI_cl (by omega), e98, nI_succK]
          have hd : au_d (l, q :: r) (jm_I G1 183 t) = some (11, (q.1, q.2 + 1) :: r) := by
            rw [e]
            unfold au_d
            dsimp only
            rw [if_neg (fun g => g.elim n22 n23), if_pos hl, if_neg (by decide), if_pos ⟨rfl, hq⟩]
          have hpt : q.2 + 1 ≤ t + 1 + 1 := by have := hG.2.2.2.2.2.2.2.1; omega
          refine on (s := (11, (q.1, q.2 + 1) :: r)) aw_11 ⟨⟨jX_pA k1.1 (Or.inr rfl), ?_, k1.2.2.1, ?_, ?_⟩, by have := hG.2.1; omega, au_next hG.2.1 hG.2.2.1 hd, ?_, hlen, ?_⟩
          · rw [jm_I_pI, if_neg (by omega)]; exact k1.2.1
          · rw [jm_I_pI, if_neg (by omega)]; exact k1.2.2.2.1
          · rw [jm_I_pI, if_neg (by omega)]; exact k1.2.2.2.2
          · rw [jm_I_pI, if_neg (by omega)]; exact e31
          · refine ⟨?_, ?_, hpt, ?_⟩
            · rw [jm_I_pI, if_neg (by omega), jm_I_pI, if_neg (by omega)]; exact hG.2.2.2.2.2.1
            · rw [jm_I_pI, if_pos ⟨rfl, rfl⟩]
            · refine opm_part r (Nat.le_refl _) (opm_same (c := t + 1) (by omega) (by funext j; simp only [jm_I_pI, Nat.reduceEqDiff, false_and, if_false]) (by funext j; simp only [jm_I_pI, Nat.reduceEqDiff, false_and, if_false]) _ hG.2.2.2.2.2.2.2.2)
        · have st1 := jX_st hG'.1
          have hlen : r.length + 1 ≤ 8 := hG.2.2.2.2.1
          have e31 : jm_I G' 180 31 = nI (r.length + 1) := e'.trans hG.2.2.2.1
          have em : nI (r.length + 1) - (1 : Int32) = nI r.length := by rw [show (1 : Int32) = nI 1 from rfl, jI_n, jI_n, jI_sub, jI_n, show ((r.length + 1 : Nat) : Int) - ((1 : Nat) : Int) = (r.length : Int) by omega]
          have r33 := st_r180_33 st1
          have hix : ¬ (nI r.length < 0 ∨ 8 ≤ (nI r.length).toNatClampNeg) := nI_inK (by omega) (by decide)
          refine jz_eq (fun _ => u173_267 (st_t180 st1) (by rw [r33]; decide) (by rw [e31, em, r33, st_l198 st1]; exact hix) (by rw [r33]; decide) (by rw [r33]; exact st_t198 st1)) (hF ?_)
          rw [r33]
          obtain ⟨t, ht, et⟩ := hG'.2.1
          exact ⟨jX_pA hG'.1 (Or.inr rfl), ⟨t, ht, by rw [jm_I_pI, if_neg (by omega)]; exact et⟩, by rw [jm_I_pI, if_neg (by omega)]; exact hG'.2.2⟩
      have h211 : jz (jXe G0 G1 t0 L) jz_0 (fun Q => jm_w S 4 173 211 [.ref 180, .int x1, .int x2, w3] [] G Q) := by
        refine jz_eq (fun _ => u173_211 t0') ?_
        have hc := hG.2.2.2.1
        dsimp only at hc
        rw [hc]
        refine jz_if (fun c => ?_) (fun c => ?_)
        · match o, hG, hc, c, h289, h261 with
          | [], _, _, c, _, _ => exact absurd rfl c
          | q :: r, hG, hc, c, h289, h261 =>
            have hlen : r.length + 1 ≤ 8 := hG.2.2.2.2.1
            have e31 : jm_I G 180 31 = nI (r.length + 1) := hc
            have em : nI (r.length + 1) - (1 : Int32) = nI r.length := by rw [show (1 : Int32) = nI 1 from rfl, jI_n, jI_n, jI_sub, jI_n, show ((r.length + 1 : Nat) : Int) - ((1 : Nat) : Int) = (r.length : Int) by omega]
            have r32 := st_r180_32 st
            have r33 := st_r180_33 st
            have hix : ¬ (nI r.length < 0 ∨ 8 ≤ (nI r.length).toNatClampNeg) := nI_inK (by omega) (by decide)
            have ho := hG.2.2.2.2.2
            refine jz_eq (fun _ => u173_219 t0' (by rw [r32]; decide) (by rw [e31, em, r32, st_l197 st]; exact hix) (by rw [r32]; decide) (by rw [r32]; exact st_t197 st)) ?_
            rw [e31, em, r32, nI_cl (by omega), ho.1]
            refine jz_if (fun c23 => h289 (fun q' r' e => by
              have := (List.cons.inj e).1
              rw [← this]
              exact fun g => absurd g c23) (List.cons_ne_nil _ _)) (fun c23 => ?_)
            have hq : q.1 = 23 := by
              by_cases g : q.1 = 23
              · exact g
              · exact absurd g c23
            refine jz_eq (fun _ => u173_235 t0') (x169 hX (fun e => ?_) (fun e => ?_))
            · exact jz_eq (fun _ => u173_241) (jz_if (fun _ => h261 q r rfl hq) (fun c => absurd (show ¬ (1 : Int32) = 0 by decide) c))
            · refine jz_eq (fun _ => u173_241) (jz_if (fun c => absurd rfl c) (fun _ => ?_))
              refine jz_eq (fun _ => u173_244 t0' (by rw [r33]; decide) (by rw [e31, em, r33, st_l198 st]; exact hix) (by rw [r33]; decide) (by rw [r33]; exact st_t198 st)) ?_
              rw [e31, em, r33, nI_cl (by omega), ho.2.1]
              have hp5 : q.2 < 500 := by have := ho.2.2.1; have := hX.2.2.1; omega
              refine jz_if (fun c2 => h289 (fun q' r' e _ => ?_) (List.cons_ne_nil _ _)) (fun _ => h261 q r rfl hq)
              rw [← (List.cons.inj e).1]
              have : ¬ q.2 % 2 = 1 := fun g => c2 ((par2 q.2 hp5).mpr g)
              omega
        · have ho : o = [] := by
            match o, hc, c, hG with
            | [], _, _, _ => rfl
            | q :: r, hc, c, hG =>
              exfalso
              have hlen : r.length + 1 ≤ 8 := hG.2.2.2.2.1
              have hl2 : (q :: r).length = r.length + 1 := rfl
              exact c (fun g => by
                rw [hl2] at g
                have := (nI_eqI (b := 0) (by omega) (by decide)).mp g
                omega)
          exact jz_eq (fun _ => u173_218) (jz_end (Or.inr ⟨t, (l, o), hX, hG.2.1, hG.2.2.1, hl, ho⟩) rfl)
      refine jz_eq (fun _ => u173_165 t0') (x169 hX (fun e => ?_) (fun e5 => ?_))
      · exact jz_eq (fun _ => u173_170) (jz_if (fun _ => h200 (Or.inl e)) (fun c => absurd (show ¬ (1 : Int32) = 0 by decide) c))
      refine jz_eq (fun _ => u173_170) (jz_if (fun c => absurd rfl c) (fun _ => ?_))
      refine jz_eq (fun _ => u173_173 t0') (x169 hX (fun e => ?_) (fun e6 => ?_))
      · exact jz_eq (fun _ => u173_179) (jz_if (fun _ => h200 (Or.inr (Or.inl e))) (fun c => absurd (show ¬ (1 : Int32) = 0 by decide) c))
      refine jz_eq (fun _ => u173_179) (jz_if (fun c => absurd rfl c) (fun _ => ?_))
      refine jz_eq (fun _ => u173_182 t0') (x169 hX (fun e => ?_) (fun e7 => ?_))
      · exact jz_eq (fun _ => u173_188) (jz_if (fun _ => h200 (Or.inr (Or.inr (Or.inl e)))) (fun c => absurd (show ¬ (1 : Int32) = 0 by decide) c))
      refine jz_eq (fun _ => u173_188) (jz_if (fun c => absurd rfl c) (fun _ => ?_))
      refine jz_eq (fun _ => u173_191 t0') (x169 hX (fun e => ?_) (fun e8 => ?_))
      · exact jz_eq (fun _ => u173_197) (jz_if (fun c => absurd c (by decide)) (fun _ => h200 (Or.inr (Or.inr (Or.inr e)))))
      exact jz_eq (fun _ => u173_197) (jz_if (fun _ => h211) (fun c => absurd rfl c))
    rcases hw with ⟨hl, hx1⟩ | ⟨hl, hx1, hx2⟩
    · -- nothing is wanted: all the first tests fall through
      refine jz_eq (fun _ => u173_16) (jz_if (fun _ => ?_) (fun c => absurd hx1 c))
      refine jz_eq (fun _ => u173_42) (jz_if (fun _ => ?_) (fun c => absurd hx1 c))
      refine jz_eq (fun _ => u173_65) (jz_if (fun _ => ?_) (fun c => absurd hx1 c))
      exact jz_eq (fun _ => u173_128) (jz_if (fun _ => h165 hl hx1) (fun c => absurd hx1 c))
    · -- something is wanted
      subst hx1
      have dW : ∀ k : Int32, (k = 22 ∨ k = 23 ∨ k = 1 ∨ k = 2) → au_d (l, o) k = some (k, o) := fun k hk => by
        unfold au_d
        dsimp only
        rw [if_neg (fun g => g.elim n22 n23), if_neg hl, if_neg (fun g => by rw [g.1] at hk; revert hk; decide), if_neg (fun g => by rw [g] at hk; revert hk; decide), if_pos hk]
      have d9 : au_d (l, o) 9 = some (9, (0, 1) :: o) := by
        unfold au_d
        dsimp only
        rw [if_neg (fun g => g.elim n22 n23), if_neg hl, if_neg (fun g => absurd g.1 (by decide)), if_pos rfl]
      have h128 : jz (jXe G0 G1 t0 L) jz_0 (fun Q => jm_w S 4 173 128 [.ref 180, .int 1, .int x2, w3] [] G Q) := by
        refine jz_eq (fun _ => u173_128) (jz_if (fun c => absurd c (by decide)) (fun _ => ?_))
        have h148 : (jm_I G1 183 t = 1 ∨ jm_I G1 183 t = 2) → jz (jXe G0 G1 t0 L) jz_0 (fun Q => jm_w S 4 173 148 [.ref 180, .int 1, .int x2, w3] [] G Q) := by
          intro hk
          refine jz_eq (fun _ => u173_148 t0') (x170 hX (fun ht => ?_) (fun G' hG' _ => jz_eq (fun _ => u173_152.trans u173_160) (hF hG')))
          refine jz_eq (fun _ => u173_152.trans u173_160) (on (s := (jm_I G1 183 t, o)) (aw_12 hk) (jX9_on hG ht (dW _ (Or.inr (Or.inr hk))) rfl))
        refine jz_eq (fun _ => u173_132 t0') (x169 hX (fun e => ?_) (fun e2 => ?_))
        · exact jz_eq (fun _ => u173_137) (jz_if (fun _ => h148 (Or.inr e)) (fun c => absurd (show ¬ (1 : Int32) = 0 by decide) c))
        refine jz_eq (fun _ => u173_137) (jz_if (fun c => absurd rfl c) (fun _ => ?_))
        refine jz_eq (fun _ => u173_140 t0') (x169 hX (fun e => ?_) (fun e1 => ?_))
        · exact jz_eq (fun _ => u173_145) (jz_if (fun c => absurd c (by decide)) (fun _ => h148 (Or.inl e)))
        refine jz_eq (fun _ => u173_145) (jz_if (fun _ => ?_) (fun c => absurd rfl c))
        refine jz_eq (fun _ => u173_155 t0') (x171 hX (by decide) (fun G' hG' _ => ?_))
        exact jz_eq (fun _ => u173_160) (hF hG')
      have h65 : jz (jXe G0 G1 t0 L) jz_0 (fun Q => jm_w S 4 173 65 [.ref 180, .int 1, .int x2, w3] [] G Q) := by
        refine jz_eq (fun _ => u173_65) (jz_if (fun c => absurd c (by decide)) (fun _ => ?_))
        have h87 : (jm_I G1 183 t = 22 ∨ jm_I G1 183 t = 23) → jz (jXe G0 G1 t0 L) jz_0 (fun Q => jm_w S 4 173 87 [.ref 180, .int 1, .int x2, w3] [] G Q) := by
          intro hk
          have et := hX.2.1
          refine jz_eq (fun _ => u173_87 t0' (by rw [r5]; decide) (by rw [r5, st_l183 st, et]; exact nI_inK (by have := hX.2.2.1; omega) (by decide)) (by rw [r5]; decide) (by rw [r5]; exact st_t183 st)) ?_
          rw [r5, et, nI_cl (by have := hX.2.2.1; omega), kd]
          have hk4 : jm_I G1 183 t = 22 ∨ jm_I G1 183 t = 23 ∨ jm_I G1 183 t = 1 ∨ jm_I G1 183 t = 2 := hk.elim Or.inl (fun h => Or.inr (Or.inl h))
          refine x170 hX (fun ht => ?_) (fun G' hG' _ => ?_)
          · have k9 := jX9_on hG ht (dW _ hk4) (rfl : (jm_I G1 183 t, o).2 = (l, o).2)
            have k1 := k9.1
            refine jz_eq (fun _ => u173_101 (st_t180 (jX_st k1.1))) (x169 k1 (fun e => ?_) (fun e => ?_))
            · refine jz_eq (fun _ => u173_107) (jz_if (fun c => absurd c (by decide)) (fun _ => ?_))
              have d2 : au_d (jm_I G1 183 t, o) (jm_I G1 183 (t + 1)) = some (9, (jm_I G1 183 t, 1) :: o) := by
                rw [e]
                unfold au_d
                dsimp only
                rw [if_pos hk, if_pos rfl]
              refine jz_eq (fun _ => u173_110 (st_t180 (jX_st k1.1))) (x174 k9 d2 rfl (fun G' ht' h9 => ?_) (fun G' hG' => ?_))
              · refine jz_eq (fun _ => u173_115.trans u173_123) (l173 d (t + 1 + 1) (by omega) (s := (9, (jm_I G1 183 t, 1) :: o)) aw_9 h9)
              · exact jz_eq (fun _ => u173_115.trans u173_123) (hF hG')
            · refine jz_eq (fun _ => u173_107) (jz_if (fun _ => ?_) (fun c => absurd rfl c))
              refine jz_eq (fun _ => u173_118 (st_t180 (jX_st k1.1))) (x171 k1 (by decide) (fun G' hG' _ => ?_))
              exact jz_eq (fun _ => u173_123) (hF hG')
          · refine jz_eq (fun _ => u173_101 (st_t180 (jX_st hG'.1))) (f169 hG' ?_)
            refine jz_eq (fun _ => u173_107) (jz_if (fun _ => ?_) (fun c => absurd rfl c))
            refine jz_eq (fun _ => u173_118 (st_t180 (jX_st hG'.1))) (f171 hG' ?_)
            exact jz_eq (fun _ => u173_123) (hF hG')
        refine jz_eq (fun _ => u173_69 t0') (x169 hX (fun e => ?_) (fun e22 => ?_))
        · exact jz_eq (fun _ => u173_75) (jz_if (fun _ => h87 (Or.inl e)) (fun c => absurd (show ¬ (1 : Int32) = 0 by decide) c))
        refine jz_eq (fun _ => u173_75) (jz_if (fun c => absurd rfl c) (fun _ => ?_))
        refine jz_eq (fun _ => u173_78 t0') (x169 hX (fun e => ?_) (fun e23 => ?_))
        · exact jz_eq (fun _ => u173_84) (jz_if (fun c => absurd c (by decide)) (fun _ => h87 (Or.inr e)))
        exact jz_eq (fun _ => u173_84) (jz_if (fun _ => h128) (fun c => absurd rfl c))
      have h42 : jz (jXe G0 G1 t0 L) jz_0 (fun Q => jm_w S 4 173 42 [.ref 180, .int 1, .int x2, w3] [] G Q) := by
        refine jz_eq (fun _ => u173_42) (jz_if (fun c => absurd c (by decide)) (fun _ => ?_))
        refine jz_eq (fun _ => u173_46 t0') (x169 hX (fun e => ?_) (fun e9 => ?_))
        · refine jz_eq (fun _ => u173_52) (jz_if (fun c => absurd c (by decide)) (fun _ => ?_))
          refine jz_eq (fun _ => u173_55 t0') (x174 hG (s' := (9, (0, 1) :: o)) (by rw [e]; exact d9) rfl (fun G' ht' h9 => ?_) (fun G' hG' => ?_))
          · exact jz_eq (fun _ => u173_60) (on (s := (9, (0, 1) :: o)) aw_9 h9)
          · exact jz_eq (fun _ => u173_60) (hF hG')
        exact jz_eq (fun _ => u173_52) (jz_if (fun _ => h65) (fun c => absurd rfl c))
      refine jz_eq (fun _ => u173_16) (jz_if (fun c => absurd c (by decide)) (fun _ => ?_))
      refine jz_eq (fun _ => u173_20) (jz_if (fun _ => h42) (fun cb => ?_))
      have hb : l = 99 ∨ l = 9 ∨ l = 11 := by
        rcases hx2 with ⟨h, _⟩ | ⟨_, h⟩
        · exact h
        · exact absurd h cb
      refine jz_eq (fun _ => u173_24 t0') (x169 hX (fun e => ?_) (fun e6 => ?_))
      · refine jz_eq (fun _ => u173_30) (jz_if (fun c => absurd c (by decide)) (fun _ => ?_))
        have d6 : au_d (l, o) (jm_I G1 183 t) = some (6, o) := by
          rw [e]
          unfold au_d
          dsimp only
          rw [if_neg (fun g => g.elim n22 n23), if_neg hl, if_pos ⟨rfl, hb⟩]
        refine jz_eq (fun _ => u173_33 t0') (x170 hX (fun ht => ?_) (fun G' hG' _ => jz_eq (fun _ => u173_37) (hF hG')))
        exact jz_eq (fun _ => u173_37) (on (s := (6, o)) (aw_op (Or.inr (Or.inl rfl))) (jX9_on hG ht d6 rfl))
      · exact jz_eq (fun _ => u173_30) (jz_if (fun _ => h42) (fun c => absurd rfl c))
theorem z173 {G : jm_H} {t L : Nat} (hG : jXt G0 G1 t L G) : jz (jXe G0 G1 t L) jz_0 (fun Q => jm_c S 173 [.ref 180] G Q) := by
  refine jz_eq (fun _ => en173.trans (u173_0 (st_t180 (jX_st hG.1)))) ?_
  refine l173 (S := S) 401 t (by omega) (s := (99, [])) aw_99 ⟨⟨jX_pI hG.1 (by decide), ?_, hG.2.2.1, ?_, ?_⟩, Nat.le_refl _, ?_, ?_, by decide, trivial⟩
  · rw [jm_I_pI, if_neg (by decide)]; exact hG.2.1
  · rw [jm_I_pI, if_neg (by decide)]; exact hG.2.2.2.1
  · rw [jm_I_pI, if_neg (by decide)]; exact hG.2.2.2.2
  · rw [Nat.sub_self]; rfl
  · rw [jm_I_pI, if_pos ⟨rfl, rfl⟩]; rfl
end SYN
