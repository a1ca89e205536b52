/-! the interpreter -/
/-- the heap's instructions, and an array of objects made by a class's own pool number (which 'new' shares) -/
def jm_hq (S : Option (Nat × (Nat → Int32))) (ins : Instr) (e : Nat × Nat × Nat × Int) (st : List Value) (H : jm_H) : Option (List Value × jm_H) := match jm_hp S ins e st H with
  | some y => some y
  | none => match ins, st with
    | .anewarray _, .int n :: q => if e.1 = 6 ∧ ¬ n < 0 ∧ n.toNatClampNeg ≤ 60000000 ∧ (e.2.1 = 6 ∨ e.2.1 = 5) then some (.ref (jm_n H + 2) :: q, jm_mk H (if e.2.1 = 6 then 104 else 105) n.toNatClampNeg n.toNatClampNeg) else none
    | _, _ => none
def jm_ev (S : Option (Nat × (Nat → Int32))) : Nat → Nat → Nat → Nat → List Value → List Value → jm_H → Option (Option Value × jm_H)
  | 0, _, _, _, _, _, _ => none
  | n + 1, D, mi, pc, ls, st, H => match jm_at mi pc with
    | none => none
    | some ins => match jm_kd ins with
      | 0 => (match jm_alu ins st with | none => none | some st' => jm_ev S n D mi (pc + jm_len ins) ls st' H)
      | 1 => (match jm_loc ins ls st with | none => none | some x => jm_ev S n D mi (pc + jm_len ins) x.1 x.2 H)
      | 2 => (match jm_br ins pc st with | none => none | some x => jm_ev S n D mi x.1 ls x.2 H)
      | 3 => (match jm_hq S ins (jm_rv mi ins) st H with | none => none | some x => jm_ev S n D mi (pc + jm_len ins) ls x.1 x.2)
      | 4 => (match jm_rt (jm_ret mi) ins st with | none => none | some r => some (r, H))
      | _ => (match jm_cl ins (jm_rv mi ins) st H with
        | none => none
        | some x => match x.1 with
          | none => jm_ev S n D mi (pc + 3) ls x.2 H
          | some as => if jm_rk (jm_rv mi ins).2.1 as < D ∧ (jm_en (jm_rv mi ins).2.1 as).length = jm_mx (jm_rv mi ins).2.1 then (match jm_ev S n (jm_rk (jm_rv mi ins).2.1 as) (jm_rv mi ins).2.1 0 (jm_en (jm_rv mi ins).2.1 as) [] H with
            | none => none
            | some y => jm_ev S n D mi (pc + 3) ls (y.1.toList ++ x.2) y.2) else none)
