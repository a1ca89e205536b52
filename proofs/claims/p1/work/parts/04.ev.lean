/-! the interpreter -/
def jm_ev (S : Option (Nat × (Nat → Int32))) : Nat → Nat → Nat → Nat → List Value → List Value → jm_H → Option (Option Value × jm_H)
  | 0, _, _, _, _, _, _ => none
  | n + 1, D, mi, pc, ls, st, H => match jm_at mi pc with
    | none => none
    | some ins => match jm_kd ins with
      | 0 => (match jm_alu ins st with | none => none | some st' => jm_ev S n D mi (pc + jm_len ins) ls st' H)
      | 1 => (match jm_loc ins ls st with | none => none | some x => jm_ev S n D mi (pc + jm_len ins) x.1 x.2 H)
      | 2 => (match jm_br ins pc st with | none => none | some x => jm_ev S n D mi x.1 ls x.2 H)
      | 3 => (match jm_hp S ins (jm_rv mi ins) st H with | none => none | some x => jm_ev S n D mi (pc + jm_len ins) ls x.1 x.2)
      | 4 => (match jm_rt (jm_ret mi) ins st with | none => none | some r => some (r, H))
      | _ => (match jm_cl ins (jm_rv mi ins) st H with
        | none => none
        | some x => match x.1 with
          | none => jm_ev S n D mi (pc + 3) ls x.2 H
          | some as => if jm_rk (jm_rv mi ins).2.1 as < D ∧ (jm_en (jm_rv mi ins).2.1 as).length = jm_mx (jm_rv mi ins).2.1 then (match jm_ev S n (jm_rk (jm_rv mi ins).2.1 as) (jm_rv mi ins).2.1 0 (jm_en (jm_rv mi ins).2.1 as) [] H with
            | none => none
            | some y => jm_ev S n D mi (pc + 3) ls (y.1.toList ++ x.2) y.2) else none)
