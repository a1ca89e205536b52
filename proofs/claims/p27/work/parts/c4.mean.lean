set_option maxRecDepth 20000
/-! the reference's meaning: what is let through becomes steps that can be gone -/
/-- a step: how many rows lie there behind it -/
def hg_d (i h : Nat) (k v : Int32) : Option Nat :=
  if k = 0 then (if 0 ≤ v.toInt ∧ v.toInt ≤ 9999 then some (h + 1) else none)
  else if k = 1 then (if 0 ≤ v.toInt ∧ v.toInt < i then some (h + 1) else none)
  else if k = 2 ∨ k = 7 then (if 1 ≤ h then some h else none)
  else if k = 3 ∨ k = 4 ∨ k = 5 ∨ k = 6 then (if 2 ≤ h then some (h - 1) else none)
  else if k = 8 then (if 0 ≤ v.toInt ∧ v.toInt ≤ h ∧ v.toInt.toNat % 2 = 0 then some (h - v.toInt.toNat + 1) else none)
  else none
def hg (K V : Nat → Int32) (i a : Nat) : Nat → Option Nat
  | 0 => some 0
  | n + 1 => (hg K V i a n).bind (fun h => hg_d i h (K (a + n)) (V (a + n)))
theorem hg_same {K V K' V' : Nat → Int32} {i a : Nat} : ∀ n, (∀ j, j < n → K' (a + j) = K (a + j) ∧ V' (a + j) = V (a + j)) → hg K' V' i a n = hg K V i a n
  | 0, _ => rfl
  | n + 1, h => by
    show (hg K' V' i a n).bind _ = (hg K V i a n).bind _
    rw [hg_same n (fun j hj => h j (by omega)), (h n (by omega)).1, (h n (by omega)).2]
/-- what waits: its height -/
def wH : List (Int32 × Nat) → Nat
  | [] => 0
  | w :: ws => (if w.1 = 2 then 0 else if w.1 = 3 ∨ w.1 = 4 ∨ w.1 = 5 ∨ w.1 = 6 then 1 else w.2 - 1) + wH ws
def wop (k : Int32) : Prop := k = 2 ∨ k = 3 ∨ k = 4 ∨ k = 5 ∨ k = 6
def wmk (o : Int32) : Int32 := if o = 22 then 7 else if o = 23 then 8 else -1
theorem wmk_no (o : Int32) : ¬ wop (wmk o) := by
  unfold wop wmk
  split
  · decide
  · split <;> decide
/-- what waits and what is open: alike -/
def sim : List (Int32 × Nat) → List (Int32 × Nat) → Prop
  | os, [] => os = []
  | os, w :: ws => (wop w.1 ∧ sim os ws) ∨ ∃ o r, os = o :: r ∧ w = (wmk o.1, o.2) ∧ (o.1 ≠ 23 → o.2 = 1) ∧ sim r ws
def wm (G : jm_H) (c : Nat) : List (Int32 × Nat) → Prop
  | [] => True
  | w :: ws => jm_I G 199 ws.length = w.1 ∧ jm_I G 200 ws.length = nI w.2 ∧ (1 ≤ w.2 ∧ w.2 ≤ c) ∧ wm G c ws
theorem wm_same {G G' : jm_H} {c c' : Nat} (hc : c ≤ c') : ∀ l : List (Int32 × Nat), (∀ k, k < l.length → jm_I G' 199 k = jm_I G 199 k ∧ jm_I G' 200 k = jm_I G 200 k) → wm G c l → wm G' c' l
  | [], _, _ => trivial
  | o :: r, h, g => ⟨by rw [(h r.length (Nat.lt_succ_self _)).1]; exact g.1, by rw [(h r.length (Nat.lt_succ_self _)).2]; exact g.2.1, ⟨g.2.2.1.1, Nat.le_trans g.2.2.1.2 hc⟩, wm_same hc r (fun k hk => h k (Nat.lt_succ_of_lt hk)) g.2.2.2⟩
/-- the lets so far: their steps can be gone -/
def jPr (G : jm_H) (l p : Nat) : Prop := ∀ j, j < l → ∃ a b h, jm_I G 196 j = nI a ∧ jm_I G 196 (j + 1) = nI b ∧ a ≤ b ∧ b ≤ p ∧ 1 ≤ h ∧ hg (jm_I G 194) (jm_I G 195) j a (b - a) = some h
theorem jPr_same {G G' : jm_H} {l p p' : Nat} (hp : p ≤ p') (h4 : ∀ k, k < p → jm_I G' 194 k = jm_I G 194 k ∧ jm_I G' 195 k = jm_I G 195 k) (h6 : ∀ k, k ≤ l → jm_I G' 196 k = jm_I G 196 k) (h : jPr G l p) : jPr G' l p' := by
  intro j hj
  obtain ⟨a, b, h1, e1, e2, h2, h3, h5, h7⟩ := h j hj
  refine ⟨a, b, h1, by rw [h6 j (by omega)]; exact e1, by rw [h6 (j + 1) (by omega)]; exact e2, h2, by omega, h5, ?_⟩
  rw [hg_same (K := jm_I G 194) (V := jm_I G 195) (b - a) (fun i hi => h4 (a + i) (by omega))]
  exact h7
/-- while the meaning is told -/
def jN (G0 G2 G : jm_H) : Prop := jY G0 G ∧ jf_fr (fun r => r = 180 ∨ r = 192 ∨ (194 ≤ r ∧ r ≤ 196) ∨ r = 199 ∨ r = 200) G2 G ∧ jm_I G 180 10 = jm_I G2 180 10 ∧ jm_I G 180 12 = 0 ∧ 0 ≤ (jm_I G 180 14).toInt ∧ (jm_I G2 180 14 ≠ 0 → jm_I G 180 14 ≠ 0)
theorem jN_st {G0 G2 G : jm_H} (h : jN G0 G2 G) : jm_st G := h.1.2.1
theorem jN_pI {G0 G2 G : jm_H} {k : Nat} {v : Int32} (h : jN G0 G2 G) (hk : k ≠ 2 ∧ k ≠ 21 ∧ k ≠ 25 ∧ k ≠ 39 ∧ k ≠ 40 ∧ k ≠ 10 ∧ k ≠ 12 ∧ k ≠ 14) : jN G0 G2 (jm_pI G 180 k v) := ⟨jY_pI h.1 (by omega), jf_fr_trans h.2.1 (jf_fr_pI (Or.inl rfl)), by rw [jm_I_pI, if_neg (by omega)]; exact h.2.2.1, by rw [jm_I_pI, if_neg (by omega)]; exact h.2.2.2.1, by rw [jm_I_pI, if_neg (by omega)]; exact h.2.2.2.2⟩
theorem jN_pA {G0 G2 G : jm_H} {r k : Nat} {v : Int32} (h : jN G0 G2 G) (hr : (194 ≤ r ∧ r ≤ 196) ∨ r = 199 ∨ r = 200) : jN G0 G2 (jm_pI G r k v) := ⟨jY_pI h.1 (by omega), jf_fr_trans h.2.1 (jf_fr_pI (by omega)), by rw [jm_I_pI, if_neg (by omega)]; exact h.2.2.1, by rw [jm_I_pI, if_neg (by omega)]; exact h.2.2.2.1, by rw [jm_I_pI, if_neg (by omega)]; exact h.2.2.2.2⟩
theorem jN_pL {G0 G2 G : jm_H} {k : Nat} {v : Int64} (h : jN G0 G2 G) : jN G0 G2 (jm_pL G 192 k v) := ⟨jY_pL h.1 (by decide), jf_fr_trans h.2.1 (jf_fr_pL (by decide)), h.2.2.1, h.2.2.2⟩
theorem jN_kd {G0 G2 G : jm_H} (h : jN G0 G2 G) : jm_I G 183 = jm_I G2 183 := (h.2.1.2.2.2.2 183 (by decide)).1
theorem jN_vl {G0 G2 G : jm_H} (h : jN G0 G2 G) : jm_I G 185 = jm_I G2 185 := (h.2.1.2.2.2.2 185 (by decide)).1
/-- a step told -/
def mst (G : jm_H) (p : Nat) (k v : Int32) : jm_H := jm_pI (jm_pI (jm_pI G 194 p k) 195 p v) 180 29 (nI (p + 1))
/-- one that waits -/
def mwt (G : jm_H) (m : Nat) (k : Int32) : jm_H := jm_pI (jm_pI (jm_pI G 199 m k) 200 m 1) 180 36 (nI (m + 1))
/-- in a let: its steps so far, what waits -/
def jL (G0 G2 : jm_H) (l a p c : Nat) (ws os : List (Int32 × Nat)) (x : Nat) (G : jm_H) : Prop := jN G0 G2 G ∧ jm_I G 180 29 = nI p ∧ jm_I G 180 30 = nI l ∧ jm_I G 180 36 = nI ws.length ∧ a ≤ p ∧ wm G c ws ∧ sim os ws ∧ jm_I G 196 l = nI a ∧ (jm_I G 180 14 = 0 → hg (jm_I G 194) (jm_I G 195) l a (p - a) = some (wH ws + x)) ∧ (jm_I G 180 14 = 0 → jPr G l a)
section MEAN
variable {S : Option (Nat × (Nat → Int32))} {G0 G2 : jm_H} {K : jm_H → Prop} {R : Option Value → Prop} {kont : Option Value → jm_H → (Option Value → jm_H → Prop) → Prop}
theorem c181 {G : jm_H} (st : jm_st G) {p : Nat} (hp : p < 410) (e : jm_I G 180 29 = nI p) {k v : Int32} {Q : Option Value → jm_H → Prop} : jm_c S 181 [.ref 180, .int k, .int v] G Q = Q none (mst G p k v) := by
  have r1 := st_r180_26 st
  have r2 := st_r180_27 st
  have cl := nI_cl (k := p) (by omega)
  have hix : ¬ (nI p < 0 ∨ 410 ≤ p) := by
    have h := nI_inK (k := p) (n := 410) hp (by decide)
    rw [cl] at h
    exact h
  have l1 := st_l194 st
  have l2 := st_l195 st
  have t0 := st_t180 st
  rw [en181, u181_0 (by first | exact t0 | (simp only [r1, r2, e, cl, l1, l2, jm_I_pI, Nat.reduceEqDiff, false_and, if_false]; first | decide | exact hix | exact st_t194 st | exact st_t195 st)) (by first | exact t0 | (simp only [r1, r2, e, cl, l1, l2, jm_I_pI, Nat.reduceEqDiff, false_and, if_false]; first | decide | exact hix | exact st_t194 st | exact st_t195 st)) (by first | exact t0 | (simp only [r1, r2, e, cl, l1, l2, jm_I_pI, Nat.reduceEqDiff, false_and, if_false]; first | decide | exact hix | exact st_t194 st | exact st_t195 st)) (by first | exact t0 | (simp only [r1, r2, e, cl, l1, l2, jm_I_pI, Nat.reduceEqDiff, false_and, if_false]; first | decide | exact hix | exact st_t194 st | exact st_t195 st)) (by first | exact t0 | (simp only [r1, r2, e, cl, l1, l2, jm_I_pI, Nat.reduceEqDiff, false_and, if_false]; first | decide | exact hix | exact st_t194 st | exact st_t195 st)) (by first | exact t0 | (simp only [r1, r2, e, cl, l1, l2, jm_I_pI, Nat.reduceEqDiff, false_and, if_false]; first | decide | exact hix | exact st_t194 st | exact st_t195 st)) (by first | exact t0 | (simp only [r1, r2, e, cl, l1, l2, jm_I_pI, Nat.reduceEqDiff, false_and, if_false]; first | decide | exact hix | exact st_t194 st | exact st_t195 st))]
  simp only [r1, r2, e, cl, jm_I_pI, Nat.reduceEqDiff, false_and, if_false, nI_succK]
  rfl
theorem c182 {G : jm_H} (st : jm_st G) {m : Nat} (hm : m < 400) (e : jm_I G 180 36 = nI m) {k : Int32} {Q : Option Value → jm_H → Prop} : jm_c S 182 [.ref 180, .int k] G Q = Q none (mwt G m k) := by
  have r1 := st_r180_34 st
  have r2 := st_r180_35 st
  have cl := nI_cl (k := m) (by omega)
  have hix : ¬ (nI m < 0 ∨ 400 ≤ m) := by
    have h := nI_inK (k := m) (n := 400) hm (by decide)
    rw [cl] at h
    exact h
  have l1 := st_l199 st
  have l2 := st_l200 st
  have t0 := st_t180 st
  rw [en182, u182_0 (by first | exact t0 | (simp only [r1, r2, e, cl, l1, l2, jm_I_pI, Nat.reduceEqDiff, false_and, if_false]; first | decide | exact hix | exact st_t199 st | exact st_t200 st)) (by first | exact t0 | (simp only [r1, r2, e, cl, l1, l2, jm_I_pI, Nat.reduceEqDiff, false_and, if_false]; first | decide | exact hix | exact st_t199 st | exact st_t200 st)) (by first | exact t0 | (simp only [r1, r2, e, cl, l1, l2, jm_I_pI, Nat.reduceEqDiff, false_and, if_false]; first | decide | exact hix | exact st_t199 st | exact st_t200 st)) (by first | exact t0 | (simp only [r1, r2, e, cl, l1, l2, jm_I_pI, Nat.reduceEqDiff, false_and, if_false]; first | decide | exact hix | exact st_t199 st | exact st_t200 st)) (by first | exact t0 | (simp only [r1, r2, e, cl, l1, l2, jm_I_pI, Nat.reduceEqDiff, false_and, if_false]; first | decide | exact hix | exact st_t199 st | exact st_t200 st)) (by first | exact t0 | (simp only [r1, r2, e, cl, l1, l2, jm_I_pI, Nat.reduceEqDiff, false_and, if_false]; first | decide | exact hix | exact st_t199 st | exact st_t200 st)) (by first | exact t0 | (simp only [r1, r2, e, cl, l1, l2, jm_I_pI, Nat.reduceEqDiff, false_and, if_false]; first | decide | exact hix | exact st_t199 st | exact st_t200 st))]
  simp only [r1, r2, e, cl, jm_I_pI, Nat.reduceEqDiff, false_and, if_false, nI_succK]
  rfl
theorem c184 (k : Int32) {G : jm_H} {Q : Option Value → jm_H → Prop} : jm_c S 184 [.int k] G Q = Q (some (.int (if k = 5 ∨ k = 6 then 2 else if k = 3 ∨ k = 4 ∨ k = 2 then 1 else 0))) G := by
  rw [en184, u184_0]
  by_cases h5 : k = 5
  · rw [if_pos h5, u184_11, u184_35, if_pos (Or.inl h5)]
  · rw [if_neg h5, u184_5]
    by_cases h6 : k = 6
    · rw [if_neg (fun g => g h6), u184_11, u184_35, if_pos (Or.inr h6)]
    · rw [if_pos h6, u184_15, show (if k = 5 ∨ k = 6 then (2 : Int32) else if k = 3 ∨ k = 4 ∨ k = 2 then 1 else 0) = (if k = 3 ∨ k = 4 ∨ k = 2 then 1 else 0) from if_neg (fun g => g.elim h5 h6)]
      by_cases h3 : k = 3
      · rw [if_pos h3, u184_30, u184_35, if_pos (Or.inl h3)]
      · rw [if_neg h3, u184_20]
        by_cases h4 : k = 4
        · rw [if_pos h4, u184_30, u184_35, if_pos (Or.inr (Or.inl h4))]
        · rw [if_neg h4, u184_25]
          by_cases h2 : k = 2
          · rw [if_neg (fun g => g h2), u184_30, u184_35, if_pos (Or.inr (Or.inr h2))]
          · rw [if_pos h2, u184_34, u184_35, if_neg (fun g => g.elim h3 (fun g => g.elim h4 h2))]
/-- something is wrong -/
theorem x177 {G : jm_H} {j : Nat} {k : Int32} (hG : jN G0 G2 G) (hj : j ≤ 402) (hk : k ≠ 0) (h : ∀ G', (G' = G ∨ ∃ v, G' = jm_pI (jm_pI G 180 14 k) 180 15 v) → jm_I G' 180 14 ≠ 0 → jz K R (fun Q => kont none G' Q)) : jz K R (fun Q => jm_c S 177 [.ref 180, .int k, .int (nI j)] G (fun v G => kont v G Q)) := by
  have st := jN_st hG
  have t0 := st_t180 st
  have r6 := st_r180_6 st
  have h46 : ∀ {x3 : Int32}, jz K R (fun Q => jm_w S 1 177 46 [.ref 180, .int k, .int (nI j), .int x3] [] G (fun v G => kont v G Q)) := fun {x3} => jz_eq (fun _ => u177_46 t0) (h _ (Or.inr ⟨x3, rfl⟩) (by rw [jm_I_pI, if_neg (by decide), jm_I_pI, if_pos ⟨rfl, rfl⟩]; exact hk))
  refine jz_eq (fun _ => en177.trans (u177_0 t0 (by rw [r6]; decide) (by rw [r6, st_l184 st]; exact nI_inK (by omega) (by decide)) (by rw [r6]; decide) (by rw [r6]; exact st_t184 st))) ?_
  rw [hG.2.2.2.1]
  refine jz_if (fun c => absurd c (by decide)) (fun _ => ?_)
  refine jz_eq (fun _ => u177_14 t0) (jz_if (fun _ => h46) (fun c0 => ?_))
  have h45 : ∀ {x3 : Int32}, jz K R (fun Q => jm_w S 1 177 45 [.ref 180, .int k, .int (nI j), .int x3] [] G (fun v G => kont v G Q)) := fun {x3} => jz_eq (fun _ => u177_45) (h G (Or.inl rfl) c0)
  refine jz_eq (fun _ => u177_21 t0) (jz_if (fun _ => h45) (fun _ => ?_))
  refine jz_eq (fun _ => u177_29 t0) (jz_if (fun _ => h46) (fun _ => ?_))
  exact jz_eq (fun _ => u177_37 t0) (jz_if (fun _ => h46) (fun _ => h45))
theorem jN_wrong {G G' : jm_H} {k : Int32} (h : jN G0 G2 G) (hk : 0 < k.toInt) (e : G' = G ∨ ∃ v, G' = jm_pI (jm_pI G 180 14 k) 180 15 v) : jN G0 G2 G' := by
  rcases e with rfl | ⟨v, rfl⟩
  · exact h
  · exact ⟨jY_pI (jY_pI h.1 (by omega)) (by omega), jf_fr_trans h.2.1 (jf_fr_trans (jf_fr_pI (Or.inl rfl)) (jf_fr_pI (Or.inl rfl))), by rw [jm_I_pI, if_neg (by omega), jm_I_pI, if_neg (by omega)]; exact h.2.2.1, by rw [jm_I_pI, if_neg (by omega), jm_I_pI, if_neg (by omega)]; exact h.2.2.2.1, by rw [jm_I_pI, if_neg (by omega), jm_I_pI, if_pos ⟨rfl, rfl⟩]; exact ⟨by omega, fun _ g => by rw [g] at hk; exact absurd hk (by decide)⟩⟩
theorem wrong_I {G G' : jm_H} {k : Int32} (e : G' = G ∨ ∃ v, G' = jm_pI (jm_pI G 180 14 k) 180 15 v) {r j : Nat} (hr : r ≠ 180 ∨ (j ≠ 14 ∧ j ≠ 15)) : jm_I G' r j = jm_I G r j := by
  rcases e with rfl | ⟨v, rfl⟩
  · rfl
  · rw [jm_I_pI, if_neg (by omega), jm_I_pI, if_neg (by omega)]
theorem jL_wrong {G G' : jm_H} {k : Int32} {l a p c x : Nat} {ws os : List (Int32 × Nat)} (h : jL G0 G2 l a p c ws os x G) (hk : 0 < k.toInt) (e : G' = G ∨ ∃ v, G' = jm_pI (jm_pI G 180 14 k) 180 15 v) (h0 : jm_I G' 180 14 ≠ 0) {y : Nat} : jL G0 G2 l a p c ws os y G' := by
  obtain ⟨a1, a2, a3, a4, a5, a6, a7, a8, a9, a10⟩ := h
  refine ⟨jN_wrong a1 hk e, ?_, ?_, ?_, a5, ?_, a7, ?_, fun g => absurd g h0, fun g => absurd g h0⟩
  · rw [wrong_I e (by decide)]; exact a2
  · rw [wrong_I e (by decide)]; exact a3
  · rw [wrong_I e (by decide)]; exact a4
  · exact wm_same (Nat.le_refl _) _ (fun k _ => ⟨wrong_I e (Or.inl (by decide)), wrong_I e (Or.inl (by decide))⟩) a6
  · rw [wrong_I e (Or.inl (by decide))]; exact a8
/-- a step is told: what it leaves -/
theorem jL_st {G : jm_H} {l a p c x x' : Nat} {ws os : List (Int32 × Nat)} {k v : Int32} (h : jL G0 G2 l a p c ws os x G) (hd : jm_I G 180 14 = 0 → hg_d l (wH ws + x) k v = some (wH ws + x')) : jL G0 G2 l a (p + 1) c ws os x' (mst G p k v) := by
  obtain ⟨a1, a2, a3, a4, a5, a6, a7, a8, a9, a10⟩ := h
  unfold mst
  refine ⟨jN_pI (jN_pA (jN_pA a1 (by decide)) (by decide)) (by decide), ?_, ?_, ?_, by omega, ?_, a7, ?_, fun g => ?_, fun g => ?_⟩
  · rw [jm_I_pI, if_pos ⟨rfl, rfl⟩]
  · simp only [jm_I_pI, Nat.reduceEqDiff, false_and, and_false, if_false]; exact a3
  · simp only [jm_I_pI, Nat.reduceEqDiff, false_and, and_false, if_false]; exact a4
  · exact wm_same (Nat.le_refl _) _ (fun k _ => by constructor <;> simp only [jm_I_pI, Nat.reduceEqDiff, false_and, if_false]) a6
  · simp only [jm_I_pI, Nat.reduceEqDiff, false_and, if_false]; exact a8
  · have g0 : jm_I G 180 14 = 0 := by
      simp only [jm_I_pI, Nat.reduceEqDiff, false_and, and_false, if_false] at g
      exact g
    rw [show p + 1 - a = (p - a) + 1 by omega]
    show (hg _ _ l a (p - a)).bind _ = _
    rw [hg_same (K := jm_I G 194) (V := jm_I G 195) (p - a) (fun j hj => by
      constructor
      · simp only [jm_I_pI, Nat.reduceEqDiff, false_and, true_and, if_false]; rw [if_neg (by omega)]
      · simp only [jm_I_pI, Nat.reduceEqDiff, false_and, true_and, if_false]; rw [if_neg (by omega)]), a9 g0]
    rw [show a + (p - a) = p by omega]
    show hg_d l (wH ws + x) _ _ = _
    have e1 : jm_I (jm_pI (jm_pI (jm_pI G 194 p k) 195 p v) 180 29 (nI (p + 1))) 194 p = k := by
      simp only [jm_I_pI, Nat.reduceEqDiff, false_and, and_self, if_false, if_true]
    have e2 : jm_I (jm_pI (jm_pI (jm_pI G 194 p k) 195 p v) 180 29 (nI (p + 1))) 195 p = v := by
      simp only [jm_I_pI, Nat.reduceEqDiff, false_and, and_self, if_false, if_true]
    rw [e1, e2]
    exact hd g0
  · have g0 : jm_I G 180 14 = 0 := by
      simp only [jm_I_pI, Nat.reduceEqDiff, false_and, and_false, if_false] at g
      exact g
    refine jPr_same (Nat.le_refl _) (fun k hk => ?_) (fun k hk => ?_) (a10 g0)
    · constructor
      · simp only [jm_I_pI, Nat.reduceEqDiff, false_and, true_and, if_false]; rw [if_neg (by omega)]
      · simp only [jm_I_pI, Nat.reduceEqDiff, false_and, true_and, if_false]; rw [if_neg (by omega)]
    · simp only [jm_I_pI, Nat.reduceEqDiff, false_and, if_false]
/-- the number of those that wait is another -/
theorem jL_w {G G' : jm_H} {l a p c c' x y : Nat} {ws ws' os os' : List (Int32 × Nat)} (h : jL G0 G2 l a p c ws os x G) (hN : jN G0 G2 G') (h36 : jm_I G' 180 36 = nI ws'.length) (hw : wm G' c' ws') (hs : sim os' ws') (hH : wH ws' + y = wH ws + x) (hI : ∀ r k, (r = 180 ∧ (k = 29 ∨ k = 30 ∨ k = 14)) ∨ r = 194 ∨ r = 195 ∨ r = 196 → jm_I G' r k = jm_I G r k) : jL G0 G2 l a p c' ws' os' y G' := by
  obtain ⟨a1, a2, a3, a4, a5, a6, a7, a8, a9, a10⟩ := h
  have e4 : jm_I G' 194 = jm_I G 194 := funext fun k => hI 194 k (by omega)
  have e5 : jm_I G' 195 = jm_I G 195 := funext fun k => hI 195 k (by omega)
  refine ⟨hN, by rw [hI _ _ (by omega)]; exact a2, by rw [hI _ _ (by omega)]; exact a3, h36, a5, hw, hs, by rw [hI _ _ (by omega)]; exact a8, fun g => ?_, fun g => ?_⟩
  · rw [hI _ _ (by omega)] at g
    rw [e4, e5, hH]
    exact a9 g
  · rw [hI _ _ (by omega)] at g
    exact jPr_same (Nat.le_refl _) (fun k _ => ⟨by rw [e4], by rw [e5]⟩) (fun k _ => hI _ _ (by omega)) (a10 g)
theorem jL_wt {G : jm_H} {l a p c x y : Nat} {ws os os' : List (Int32 × Nat)} {k : Int32} (h : jL G0 G2 l a p c ws os x G) (hc : 1 ≤ c) (hs : sim os' ((k, 1) :: ws)) (hH : wH ((k, 1) :: ws) + y = wH ws + x) : jL G0 G2 l a p c ((k, 1) :: ws) os' y (mwt G ws.length k) := by
  unfold mwt
  refine jL_w h (jN_pI (jN_pA (jN_pA h.1 (by decide)) (by decide)) (by decide)) (by rw [jm_I_pI, if_pos ⟨rfl, rfl⟩]; rfl) ⟨?_, ?_, ⟨Nat.le_refl _, hc⟩, ?_⟩ hs hH (fun r j hr => ?_)
  · simp only [jm_I_pI, Nat.reduceEqDiff, false_and, and_self, if_false, if_true]
  · simp only [jm_I_pI, Nat.reduceEqDiff, false_and, and_self, if_false, if_true]; rfl
  · refine wm_same (Nat.le_refl _) _ (fun j hj => ?_) h.2.2.2.2.2.1
    constructor
    · simp only [jm_I_pI, Nat.reduceEqDiff, false_and, true_and, if_false]; rw [if_neg (by omega)]
    · simp only [jm_I_pI, Nat.reduceEqDiff, false_and, true_and, if_false]; rw [if_neg (by omega)]
  · rw [jm_I_pI, if_neg (by omega), jm_I_pI, if_neg (by omega), jm_I_pI, if_neg (by omega)]
theorem nI_prd (m : Nat) : nI (m + 1) - (1 : Int32) = nI m := by rw [show (1 : Int32) = nI 1 from rfl, jI_n, jI_n, jI_sub, jI_n, show ((m + 1 : Nat) : Int) - ((1 : Nat) : Int) = (m : Int) by omega]
def wrk (k : Int32) : Int32 := if k = 5 ∨ k = 6 then 2 else if k = 3 ∨ k = 4 ∨ k = 2 then 1 else 0
/-- those of no lower rank are told -/
theorem x183 {l a c : Nat} {os : List (Int32 × Nat)} {least : Int32} (hl : 0 < least.toInt) : ∀ (ws : List (Int32 × Nat)) (p : Nat) {G : jm_H}, p + ws.length < 400 → jL G0 G2 l a p c ws os 1 G → (∀ ws' p' G', p' + ws'.length = p + ws.length → (∀ w r, ws' = w :: r → wrk w.1 < least) → jL G0 G2 l a p' c ws' os 1 G' → jz K R (fun Q => kont none G' Q)) → jz K R (fun Q => jm_w S 2 183 0 [.ref 180, .int least] [] G (fun v G => kont v G Q))
  | [], p, G, hp, hG, h => by
    have t0 := st_t180 (jN_st hG.1)
    refine jz_eq (fun _ => u183_0 t0) ?_
    rw [hG.2.2.2.1]
    refine jz_if (fun _ => ?_) (fun c => absurd (show nI 0 ≤ (0 : Int32) by decide) c)
    exact jz_eq (fun _ => u183_52) (h [] p G rfl (fun w r e => by cases e) hG)
  | w :: ws, p, G, hp, hG, h => by
    have st := jN_st hG.1
    have t0 := st_t180 st
    have r34 := st_r180_34 st
    have hlen : ws.length < 400 := by have : (w :: ws).length = ws.length + 1 := rfl; omega
    have hix : ¬ (nI ws.length < 0 ∨ 400 ≤ (nI ws.length).toNatClampNeg) := nI_inK hlen (by decide)
    have e36 : jm_I G 180 36 = nI (ws.length + 1) := hG.2.2.2.1
    have hw := hG.2.2.2.2.2.1
    have cl := nI_cl (k := ws.length) (by omega)
    have h52 : wrk w.1 < least → jz K R (fun Q => jm_w S 2 183 52 [.ref 180, .int least] [] G (fun v G => kont v G Q)) := fun g => jz_eq (fun _ => u183_52) (h (w :: ws) p G rfl (fun w' r e => by rw [← (List.cons.inj e).1]; exact g) hG)
    refine jz_eq (fun _ => u183_0 t0) ?_
    rw [e36]
    refine jz_if (fun c => absurd ((nI_leI (b := 0) (by omega) (by decide)).mp c) (by omega)) (fun _ => ?_)
    refine jz_eq (fun _ => u183_7 t0 (by rw [r34]; decide) (by rw [e36, nI_prd, r34, st_l199 st]; exact hix) (by rw [r34]; decide) (by rw [r34]; exact st_t199 st)) ?_
    rw [e36, nI_prd, r34, cl, hw.1]
    refine jz_eq (fun _ => c184 w.1) ?_
    refine jz_eq (fun _ => u183_21) (jz_if (fun g => h52 g) (fun g => ?_))
    have hop : wop w.1 ∧ sim os ws := by
      rcases hG.2.2.2.2.2.2.1 with h1 | ⟨o, r, _, e, _, _⟩
      · exact h1
      · exfalso
        have hn := wmk_no o.1
        have e1 : w.1 = wmk o.1 := by rw [e]
        rw [← e1] at hn
        unfold wop at hn
        have : wrk w.1 = 0 := by
          unfold wrk
          rw [if_neg (fun q => hn (by rcases q with q | q <;> simp [q])), if_neg (fun q => hn (by rcases q with q | q | q <;> simp [q]))]
        exact g (by
          show wrk w.1 < least
          rw [this]
          exact Int32.lt_iff_toInt_lt.mpr (by rw [i32_0]; exact hl))
    have e29 := hG.2.1
    have hlen2 : (w :: ws).length = ws.length + 1 := rfl
    have e36' : jm_I (jm_pI G 180 36 (nI ws.length)) 180 36 = nI ws.length := by rw [jm_I_pI, if_pos ⟨rfl, rfl⟩]
    have st' : jm_st (jm_pI G 180 36 (nI ws.length)) := jf_fr_st (P := fun _ => True) (jf_fr_pI trivial) st
    have hIk : ∀ r k, (r = 180 ∧ (k = 29 ∨ k = 30 ∨ k = 14)) ∨ r = 194 ∨ r = 195 ∨ r = 196 → jm_I (jm_pI G 180 36 (nI ws.length)) r k = jm_I G r k := fun r k hr => by rw [jm_I_pI, if_neg (by omega)]
    refine jz_eq (fun _ => u183_25 t0 (by rw [r34]; decide) (by rw [e36, nI_prd, e36', r34, st_l199 st]; exact hix) (by rw [r34]; decide) (by rw [r34]; exact st_t199 st)) ?_
    rw [e36, nI_prd, e36', r34, cl, jm_I_pI, if_neg (by omega), hw.1]
    refine jz_eq (fun _ => c181 st' (p := p) (by omega) (by rw [jm_I_pI, if_neg (by decide)]; exact e29)) ?_
    refine jz_eq (fun _ => u183_49) ?_
    -- the height falls by what the step takes
    obtain ⟨x, hx⟩ : ∃ x, wH (w :: ws) + 1 = wH ws + x := ⟨wH (w :: ws) + 1 - wH ws, by
      have : wH ws ≤ wH (w :: ws) := Nat.le_add_left _ _
      omega⟩
    have k1 : jL G0 G2 l a p c ws os x (jm_pI G 180 36 (nI ws.length)) := jL_w hG (jN_pI hG.1 (by decide)) e36' (wm_same (Nat.le_refl _) _ (fun k _ => by constructor <;> rw [jm_I_pI, if_neg (by omega)]) hw.2.2.2) hop.2 hx.symm hIk
    have k2 : jL G0 G2 l a (p + 1) c ws os 1 (mst (jm_pI G 180 36 (nI ws.length)) p w.1 0) := by
      refine jL_st k1 (fun _ => ?_)
      rw [← hx]
      unfold hg_d
      rcases hop.1 with e | e | e | e | e
      · have eH : wH (w :: ws) = wH ws := by show (if w.1 = 2 then 0 else _) + wH ws = _; rw [if_pos e]; omega
        rw [eH, e, if_neg (by decide), if_neg (by decide), if_pos (Or.inl rfl), if_pos (by omega)]
      all_goals
        have eH : wH (w :: ws) = 1 + wH ws := by
          show (if w.1 = 2 then 0 else if w.1 = 3 ∨ w.1 = 4 ∨ w.1 = 5 ∨ w.1 = 6 then 1 else w.2 - 1) + wH ws = _
          rw [e, if_neg (by decide), if_pos (by decide)]
        rw [eH, e, if_neg (by decide), if_neg (by decide), if_neg (by decide), if_pos (by decide), if_pos (by omega)]
        congr 1
        omega
    refine x183 hl ws (p + 1) (by omega) k2 (fun ws' p' G' h1 h2 h3 => h ws' p' G' (by omega) h2 h3)
/-- behind that, at rank 1: what is on top is an open one, or nothing -/
theorem sim_top {os ws : List (Int32 × Nat)} (hs : sim os ws) (ht : ∀ w r, ws = w :: r → wrk w.1 < 1) : (os = [] ∧ ws = []) ∨ ∃ o r rs, os = o :: r ∧ ws = (wmk o.1, o.2) :: rs ∧ (o.1 ≠ 23 → o.2 = 1) ∧ sim r rs := by
  cases ws with
  | nil => exact Or.inl ⟨hs, rfl⟩
  | cons w ws =>
    rcases hs with ⟨h, _⟩ | ⟨o, r, h1, h2, h3, h4⟩
    · exfalso
      have := ht w ws rfl
      unfold wrk at this
      rcases h with h | h | h | h | h <;> rw [h] at this <;> revert this <;> decide
    · exact Or.inr ⟨o, r, ws, h1, by rw [h2], h3, h4⟩
end MEAN
