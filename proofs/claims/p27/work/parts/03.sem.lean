/-! An interpreter of the bytecode over an abstract heap: objects by number (1: the script, 2, 3 ..: in the order in which they are made), three maps for ints, longs and references, one for kinds, one for lengths. -/
abbrev jm_H : Type := (Nat × Nat) × (Nat → Nat) × (Nat → Nat) × (Nat → Nat → Int32) × (Nat → Nat → Int64) × (Nat → Nat → Nat)
def jm_n (H : jm_H) : Nat := H.1.1
def jm_s (H : jm_H) : Nat := H.1.2
def jm_tg (H : jm_H) : Nat → Nat := H.2.1
def jm_ln (H : jm_H) : Nat → Nat := H.2.2.1
def jm_I (H : jm_H) : Nat → Nat → Int32 := H.2.2.2.1
def jm_L (H : jm_H) : Nat → Nat → Int64 := H.2.2.2.2.1
def jm_R (H : jm_H) : Nat → Nat → Nat := H.2.2.2.2.2
def jm_u1 {α : Type} (f : Nat → α) (a : Nat) (v : α) : Nat → α := fun b => cond (Nat.beq b a) v (f b)
def jm_u2 {α : Type} (f : Nat → Nat → α) (a k : Nat) (v : α) : Nat → Nat → α := fun b j => cond (Nat.beq b a && Nat.beq j k) v (f b j)
def jm_u0 {α : Type} (f : Nat → Nat → α) (a : Nat) (v : α) : Nat → Nat → α := fun b j => cond (Nat.beq b a) v (f b j)
def jm_pI (H : jm_H) (a k : Nat) (v : Int32) : jm_H := (H.1, H.2.1, H.2.2.1, jm_u2 H.2.2.2.1 a k v, H.2.2.2.2.1, H.2.2.2.2.2)
def jm_pL (H : jm_H) (a k : Nat) (v : Int64) : jm_H := (H.1, H.2.1, H.2.2.1, H.2.2.2.1, jm_u2 H.2.2.2.2.1 a k v, H.2.2.2.2.2)
def jm_pR (H : jm_H) (a k : Nat) (v : Nat) : jm_H := (H.1, H.2.1, H.2.2.1, H.2.2.2.1, H.2.2.2.2.1, jm_u2 H.2.2.2.2.2 a k v)
/-- a new object: kind t, length len, sl slots -/
def jm_mk (H : jm_H) (t len sl : Nat) : jm_H := ((H.1.1 + 1, H.1.2 + sl), jm_u1 H.2.1 (H.1.1 + 2) t, jm_u1 H.2.2.1 (H.1.1 + 2) len, jm_u0 H.2.2.2.1 (H.1.1 + 2) 0, jm_u0 H.2.2.2.2.1 (H.1.1 + 2) 0, jm_u0 H.2.2.2.2.2 (H.1.1 + 2) 0)
def jm_in (i : Int32) (n : Nat) : Prop := ¬ (i < 0 ∨ n ≤ i.toNatClampNeg)
def jm_v2 : Value → Bool
  | .long _ => true
  | .double _ => true
  | _ => false
/-! the instructions that work on the stack alone -/
def jm_alu (ins : Instr) (st : List Value) : Option (List Value) := match ins with
  | .iconst n => some (.int (Int32.ofInt n) :: st)
  | .bipush n => some (.int (Int8.ofInt n).toInt32 :: st)
  | .sipush n => some (.int (Int16.ofInt n).toInt32 :: st)
  | .lconst n => some (.long (Int64.ofNat n) :: st)
  | .iadd => match st with | .int y :: .int x :: r => some (.int (x + y) :: r) | _ => none
  | .isub => match st with | .int y :: .int x :: r => some (.int (x - y) :: r) | _ => none
  | .imul => match st with | .int y :: .int x :: r => some (.int (x * y) :: r) | _ => none
  | .iand => match st with | .int y :: .int x :: r => some (.int (x &&& y) :: r) | _ => none
  | .ior => match st with | .int y :: .int x :: r => some (.int (x ||| y) :: r) | _ => none
  | .ixor => match st with | .int y :: .int x :: r => some (.int (x ^^^ y) :: r) | _ => none
  | .idiv => match st with | .int y :: .int x :: r => if y = 0 then none else some (.int (x / y) :: r) | _ => none
  | .irem => match st with | .int y :: .int x :: r => if y = 0 then none else some (.int (x - x / y * y) :: r) | _ => none
  | .ineg => match st with | .int x :: r => some (.int (-x) :: r) | _ => none
  | .ishl => match st with | .int y :: .int x :: r => some (.int (x <<< (y &&& 31)) :: r) | _ => none
  | .ishr => match st with | .int y :: .int x :: r => some (.int (x >>> (y &&& 31)) :: r) | _ => none
  | .iushr => match st with | .int y :: .int x :: r => some (.int (x.toUInt32 >>> (y.toUInt32 &&& Int32.toUInt32 31)).toInt32 :: r) | _ => none
  | .ladd => match st with | .long y :: .long x :: r => some (.long (x + y) :: r) | _ => none
  | .lsub => match st with | .long y :: .long x :: r => some (.long (x - y) :: r) | _ => none
  | .lmul => match st with | .long y :: .long x :: r => some (.long (x * y) :: r) | _ => none
  | .land => match st with | .long y :: .long x :: r => some (.long (x &&& y) :: r) | _ => none
  | .lor => match st with | .long y :: .long x :: r => some (.long (x ||| y) :: r) | _ => none
  | .lxor => match st with | .long y :: .long x :: r => some (.long (x ^^^ y) :: r) | _ => none
  | .ldiv => match st with | .long y :: .long x :: r => if y = 0 then none else some (.long (x / y) :: r) | _ => none
  | .lrem => match st with | .long y :: .long x :: r => if y = 0 then none else some (.long (x - x / y * y) :: r) | _ => none
  | .lneg => match st with | .long x :: r => some (.long (-x) :: r) | _ => none
  | .lshl => match st with | .int y :: .long x :: r => some (.long (x <<< (y.toInt64 &&& 63)) :: r) | _ => none
  | .lshr => match st with | .int y :: .long x :: r => some (.long (x >>> (y.toInt64 &&& 63)) :: r) | _ => none
  | .lushr => match st with | .int y :: .long x :: r => some (.long (x.toUInt64 >>> (y.toInt64.toUInt64 &&& Int64.toUInt64 63)).toInt64 :: r) | _ => none
  | .lcmp => match st with | .long y :: .long x :: r => some (.int (lg_cmp x y) :: r) | _ => none
  | .i2l => match st with | .int x :: r => some (.long x.toInt64 :: r) | _ => none
  | .l2i => match st with | .long x :: r => some (.int x.toInt32 :: r) | _ => none
  | .i2b => match st with | .int x :: r => some (.int x.toInt8.toInt32 :: r) | _ => none
  | .dup => match st with | v :: r => if jm_v2 v then none else some (v :: v :: r) | _ => none
  | .pop => match st with | v :: r => if jm_v2 v then none else some r | _ => none
  | .dup_x1 => match st with | v :: w :: r => if jm_v2 v || jm_v2 w then none else some (v :: w :: v :: r) | _ => none
  | .dup2 => match st with | v :: w :: r => if jm_v2 v || jm_v2 w then none else some (v :: w :: v :: w :: r) | _ => none
  | .pop2 => match st with | .long _ :: r => some r | _ => none
  | _ => none
/-! loads and stores; .null among the locals: nothing is known there -/
def jm_ld (ls : List Value) (st : List Value) (t : Nat) (i : Nat) : Option (List Value × List Value) := match t, ls[i]? with
  | 0, some (.int x) => some (ls, .int x :: st)
  | 1, some (.long x) => some (ls, .long x :: st)
  | 2, some (.ref x) => some (ls, .ref x :: st)
  | _, _ => none
def jm_kl (ls : List Value) (i : Nat) : List Value := match i with
  | 0 => ls
  | k + 1 => if (ls[k]?).any jm_v2 then ls.set k .null else ls
def jm_so (ls : List Value) (st : List Value) (t : Nat) (i : Nat) : Option (List Value × List Value) := match t, st with
  | 0, .int x :: r => if i < ls.length then some ((jm_kl ls i).set i (.int x), r) else none
  | 1, .long x :: r => if i + 1 < ls.length then some (((jm_kl ls i).set i (.long x)).set (i + 1) .null, r) else none
  | 2, .ref x :: r => if i < ls.length then some ((jm_kl ls i).set i (.ref x), r) else none
  | _, _ => none
def jm_loc (ins : Instr) (ls st : List Value) : Option (List Value × List Value) := match ins with
  | .iload i => jm_ld ls st 0 i
  | .iload_n i => jm_ld ls st 0 i
  | .lload i => jm_ld ls st 1 i
  | .lload_n i => jm_ld ls st 1 i
  | .aload i => jm_ld ls st 2 i
  | .aload_n i => jm_ld ls st 2 i
  | .istore i => jm_so ls st 0 i
  | .istore_n i => jm_so ls st 0 i
  | .lstore i => jm_so ls st 1 i
  | .lstore_n i => jm_so ls st 1 i
  | .astore i => jm_so ls st 2 i
  | .astore_n i => jm_so ls st 2 i
  | .iinc i n => match ls[i]? with | some (.int x) => some (ls.set i (.int (x + Int32.ofInt n)), st) | _ => none
  | _ => none
/-! branches -/
def jm_tgt (pc : Nat) (off : Int) : Option Nat := match (pc : Int) + off with
  | .ofNat t => some t
  | .negSucc _ => none
def jm_cz (c : ClassFile.Cond) (x : Int32) : Bool := match c with
  | .eq => decide (x = 0)
  | .ne => decide (¬ x = 0)
  | .lt => decide (x < 0)
  | .ge => decide (0 ≤ x)
  | .gt => decide (0 < x)
  | .le => decide (x ≤ 0)
def jm_cc (c : ClassFile.Cond) (x y : Int32) : Bool := match c with
  | .eq => decide (x = y)
  | .ne => decide (¬ x = y)
  | .lt => decide (x < y)
  | .ge => decide (y ≤ x)
  | .gt => decide (y < x)
  | .le => decide (x ≤ y)
def jm_ps (ps : List (Int × Int)) : Bool := (ps.zip (ps.drop 1)).all (fun (a, next) => a.1 < next.1)
def jm_br (ins : Instr) (pc : Nat) (st : List Value) : Option (Nat × List Value) := match ins with
  | .ifCond c off => match st with | .int x :: r => (match jm_tgt pc off with | some t => some (cond (jm_cz c x) t (pc + 3), r) | none => none) | _ => none
  | .if_icmp c off => match st with | .int y :: .int x :: r => (match jm_tgt pc off with | some t => some (cond (jm_cc c x y) t (pc + 3), r) | none => none) | _ => none
  | .goto off => match jm_tgt pc off with | some t => some (t, st) | none => none
  | .tableswitch d lo hi offs => match st with
    | .int x :: r => if x.toInt < lo ∨ hi < x.toInt then (match jm_tgt pc d with | some t => some (t, r) | none => none) else (match offs[(x.toInt - lo).toNat]? with
      | some off => (match jm_tgt pc off with | some t => some (t, r) | none => none)
      | none => none)
    | _ => none
  | .lookupswitch d ps => match st with
    | .int x :: r => if jm_ps ps.toList then (match jm_tgt pc (Op.lookupswitch.offset ps.toList d x.toInt) with | some t => some (t, r) | none => none) else none
    | _ => none
  | _ => none
/-! the program's tables, read -/
def jm_M (mi : Nat) : jm_Mt := (jm_ms.getD (mi / 16) []).getD (mi % 16) jm_m0
def jm_y (mi : Nat) : MethodName := (jm_M mi).1
def jm_b (mi : Nat) : ByteArray := (jm_M mi).2.1
def jm_mx (mi : Nat) : Nat := (jm_M mi).2.2.1
def jm_ret (mi : Nat) : Option FieldType := (jm_M mi).2.2.2.1
def jm_ci (mi : Nat) : Nat := (jm_M mi).2.2.2.2.1
def jm_np (mi : Nat) : Nat := (jm_M mi).2.2.2.2.2.1
def jm_r0 (mi : Nat) : Nat := (jm_M mi).2.2.2.2.2.2.1
def jm_rc (mi : Nat) : Nat := (jm_M mi).2.2.2.2.2.2.2.1
def jm_cp (mi : Nat) : Nat := (jm_M mi).2.2.2.2.2.2.2.2
/-- how many frames may lie above: a number of the method, or, where it may come to itself, of its depth -/
def jm_rk (mi : Nat) (as : List Value) : Nat := match jm_rc mi with
  | 0 => jm_r0 mi
  | k + 1 => match as with
    | [_, .int d] => jm_r0 mi + 4 * (9 - d.toNatClampNeg) + (k + 1)
    | _ => jm_r0 mi + 100
def jm_pk (mi : Nat) : List (List (Nat × Instr)) := (jm_prog.getD (mi / 16) []).getD (mi % 16) []
def jm_pg (mi : Nat) : List (Nat × Instr) := (jm_pk mi).flatten
def jm_at (mi pc : Nat) : Option Instr := ((jm_pk mi).getD (pc / 16) []).lookup pc
def jm_rs (ci idx : Nat) : Option (Nat × Nat × Nat × Int) := ((jm_ks.getD ci []).lookup idx).map (fun e => e.1)
def jm_ix (ins : Instr) : Option Nat := match ins with
  | .getfield i => some i
  | .putfield i => some i
  | .invokestatic i => some i
  | .invokevirtual i => some i
  | .invokespecial i => some i
  | .new i => some i
  | .anewarray i => some i
  | .ldc i => some i
  | .ldc_w i => some i
  | .ldc2_w i => some i
  | _ => none
def jm_rv (mi : Nat) (ins : Instr) : Nat × Nat × Nat × Int := match jm_ix ins with
  | some i => (match jm_rs (jm_ci mi) i with | some e => e | none => (99, 0, 0, 0))
  | none => (98, 0, 0, 0)
def jm_ft (ci k : Nat) : Nat := (jm_fts.getD ci []).getD k 9
def jm_nf (ci : Nat) : Nat := (jm_fts.getD ci []).length
def jm_sw (ins : Instr) : Bool := match ins with
  | .tableswitch _ _ _ _ => true
  | .lookupswitch _ _ => true
  | _ => false
def jm_len (ins : Instr) : Nat := match ins with
  | .iload _ => 2
  | .lload _ => 2
  | .aload _ => 2
  | .istore _ => 2
  | .lstore _ => 2
  | .astore _ => 2
  | .iinc _ _ => 3
  | .bipush _ => 2
  | .sipush _ => 3
  | .ldc _ => 2
  | .ldc_w _ => 3
  | .ldc2_w _ => 3
  | .getfield _ => 3
  | .putfield _ => 3
  | .new _ => 3
  | .anewarray _ => 3
  | .newarray _ => 2
  | .invokestatic _ => 3
  | .invokevirtual _ => 3
  | .invokespecial _ => 3
  | .ifCond _ _ => 3
  | .if_icmp _ _ => 3
  | .goto _ => 3
  | _ => 1
def jm_kd (ins : Instr) : Nat := match ins with
  | .iload _ => 1
  | .lload _ => 1
  | .aload _ => 1
  | .istore _ => 1
  | .lstore _ => 1
  | .astore _ => 1
  | .iload_n _ => 1
  | .lload_n _ => 1
  | .aload_n _ => 1
  | .istore_n _ => 1
  | .lstore_n _ => 1
  | .astore_n _ => 1
  | .iinc _ _ => 1
  | .ifCond _ _ => 2
  | .if_icmp _ _ => 2
  | .goto _ => 2
  | .tableswitch _ _ _ _ => 2
  | .lookupswitch _ _ => 2
  | .ldc _ => 3
  | .ldc_w _ => 3
  | .ldc2_w _ => 3
  | .getfield _ => 3
  | .putfield _ => 3
  | .new _ => 3
  | .anewarray _ => 3
  | .newarray _ => 3
  | .arraylength => 3
  | .iaload => 3
  | .laload => 3
  | .baload => 3
  | .aaload => 3
  | .iastore => 3
  | .lastore => 3
  | .bastore => 3
  | .aastore => 3
  | .ireturn => 4
  | .lreturn => 4
  | .return_ => 4
  | .invokestatic _ => 5
  | .invokevirtual _ => 5
  | .invokespecial _ => 5
  | _ => 0
/-! the instructions that read or write the heap; e: the link -/
def jm_gf (a b : Nat) (r : Nat) (q : List Value) (H : jm_H) : Option (List Value × jm_H) := match jm_ft a b with
  | 0 => some (.int (jm_I H r b) :: q, H)
  | 3 => some (.int (jm_I H r b) :: q, H)
  | 1 => some (.long (jm_L H r b) :: q, H)
  | 2 => if jm_R H r b = 0 then none else some (.ref (jm_R H r b) :: q, H)
  | _ => none
def jm_pf (a b : Nat) (st : List Value) (H : jm_H) : Option (List Value × jm_H) := match jm_ft a b, st with
  | 0, .int x :: .ref r :: q => if jm_tg H r = a + 1 then some (q, jm_pI H r b x) else none
  | 3, .int x :: .ref r :: q => if jm_tg H r = a + 1 ∧ (x = 0 ∨ x = 1) then some (q, jm_pI H r b x) else none
  | 1, .long x :: .ref r :: q => if jm_tg H r = a + 1 then some (q, jm_pL H r b x) else none
  | 2, .ref x :: .ref r :: q => if jm_tg H r = a + 1 ∧ ¬ x = 0 then some (q, jm_pR H r b x) else none
  | _, _ => none
def jm_hp (S : Option (Nat × (Nat → Int32))) (ins : Instr) (e : Nat × Nat × Nat × Int) (st : List Value) (H : jm_H) : Option (List Value × jm_H) := match ins with
  | .ldc _ => if e.1 = 8 then some (.int (Int32.ofInt e.2.2.2) :: st, H) else none
  | .ldc_w _ => if e.1 = 8 then some (.int (Int32.ofInt e.2.2.2) :: st, H) else none
  | .ldc2_w _ => if e.1 = 9 then some (.long (Int64.ofInt e.2.2.2) :: st, H) else none
  | .getfield _ => match st with | .ref r :: q => if e.1 = 0 ∧ jm_tg H r = e.2.1 + 1 then jm_gf e.2.1 e.2.2.1 r q H else none | _ => none
  | .putfield _ => if e.1 = 0 then jm_pf e.2.1 e.2.2.1 st H else none
  | .new _ => if e.1 = 6 then some (.ref (jm_n H + 2) :: st, jm_mk H (e.2.1 + 1) 0 e.2.2.1) else none
  | .anewarray _ => match st with | .int n :: q => if e.1 = 7 ∧ ¬ n < 0 ∧ n.toNatClampNeg ≤ 60000000 then some (.ref (jm_n H + 2) :: q, jm_mk H e.2.1 n.toNatClampNeg n.toNatClampNeg) else none | _ => none
  | .newarray t => match st with
    | .int n :: q => if ¬ n < 0 ∧ n.toNatClampNeg ≤ 60000000 then (match t with
      | .int => some (.ref (jm_n H + 2) :: q, jm_mk H 100 n.toNatClampNeg n.toNatClampNeg)
      | .long => some (.ref (jm_n H + 2) :: q, jm_mk H 101 n.toNatClampNeg n.toNatClampNeg)
      | .byte => some (.ref (jm_n H + 2) :: q, jm_mk H 102 n.toNatClampNeg n.toNatClampNeg)
      | .boolean => some (.ref (jm_n H + 2) :: q, jm_mk H 103 n.toNatClampNeg n.toNatClampNeg)
      | _ => none) else none
    | _ => none
  | .arraylength => match st with
    | .ref r :: q => if r = 1 then (match S with | some x => some (.int (Int32.ofNat x.1) :: q, H) | none => none) else if 100 ≤ jm_tg H r then some (.int (Int32.ofNat (jm_ln H r)) :: q, H) else none
    | _ => none
  | .iaload => match st with
    | .int i :: .ref r :: q => if r = 1 then (match S with | some x => if ¬ (i < 0 ∨ x.1 ≤ i.toNatClampNeg) then some (.int (x.2 i.toNatClampNeg) :: q, H) else none | none => none)
        else if jm_tg H r = 100 ∧ ¬ (i < 0 ∨ jm_ln H r ≤ i.toNatClampNeg) then some (.int (jm_I H r i.toNatClampNeg) :: q, H) else none
    | _ => none
  | .laload => match st with
    | .int i :: .ref r :: q => if jm_tg H r = 101 ∧ ¬ (i < 0 ∨ jm_ln H r ≤ i.toNatClampNeg) then some (.long (jm_L H r i.toNatClampNeg) :: q, H) else none
    | _ => none
  | .baload => match st with
    | .int i :: .ref r :: q => if (jm_tg H r = 102 ∨ jm_tg H r = 103) ∧ ¬ (i < 0 ∨ jm_ln H r ≤ i.toNatClampNeg) then some (.int (jm_I H r i.toNatClampNeg) :: q, H) else none
    | _ => none
  | .aaload => match st with
    | .int i :: .ref r :: q => if (jm_tg H r = 104 ∨ jm_tg H r = 105) ∧ ¬ (i < 0 ∨ jm_ln H r ≤ i.toNatClampNeg) ∧ ¬ jm_R H r i.toNatClampNeg = 0 then some (.ref (jm_R H r i.toNatClampNeg) :: q, H) else none
    | _ => none
  | .iastore => match st with
    | .int x :: .int i :: .ref r :: q => if jm_tg H r = 100 ∧ ¬ (i < 0 ∨ jm_ln H r ≤ i.toNatClampNeg) then some (q, jm_pI H r i.toNatClampNeg x) else none
    | _ => none
  | .lastore => match st with
    | .long x :: .int i :: .ref r :: q => if jm_tg H r = 101 ∧ ¬ (i < 0 ∨ jm_ln H r ≤ i.toNatClampNeg) then some (q, jm_pL H r i.toNatClampNeg x) else none
    | _ => none
  | .bastore => match st with
    | .int x :: .int i :: .ref r :: q => if ¬ (i < 0 ∨ jm_ln H r ≤ i.toNatClampNeg) then (if jm_tg H r = 102 then some (q, jm_pI H r i.toNatClampNeg x.toInt8.toInt32) else if jm_tg H r = 103 ∧ (x = 0 ∨ x = 1) then some (q, jm_pI H r i.toNatClampNeg x) else none) else none
    | _ => none
  | .aastore => match st with
    | .ref x :: .int i :: .ref r :: q => if ((jm_tg H r = 104 ∧ jm_tg H x = 7) ∨ (jm_tg H r = 105 ∧ jm_tg H x = 6)) ∧ ¬ (i < 0 ∨ jm_ln H r ≤ i.toNatClampNeg) then some (q, jm_pR H r i.toNatClampNeg x) else none
    | _ => none
  | _ => none
def jm_rt (ret : Option FieldType) (ins : Instr) (st : List Value) : Option (Option Value) := match ins, ret, st with
  | .return_, none, [] => some none
  | .ireturn, some t, [.int v] => if narrow t (.int v) = .int v then some (some (.int v)) else none
  | .lreturn, some .long, [.long v] => some (some (.long v))
  | _, _, _ => none
def jm_cut (st : List Value) (k : Nat) : Option (List Value × List Value) := if st.length < k then none else some ((st.take k).reverse, st.drop k)
def jm_cs (st : List Value) : Nat := (st.map fun v => v.category).sum
/-- a call's arguments, if it is one of the program's own; and the stack below -/
def jm_cl (ins : Instr) (e : Nat × Nat × Nat × Int) (st : List Value) (H : jm_H) : Option (Option (List Value) × List Value) := match ins with
  | .invokestatic _ => if e.1 = 1 then (match jm_cut st (jm_np e.2.1) with | some (as, q) => if jm_cs q ≤ 8 then some (some as, q) else none | none => none) else none
  | .invokevirtual _ => if e.1 = 2 then (match jm_cut st (jm_np e.2.1 + 1) with | some (.ref r :: as, q) => if jm_cs q ≤ 8 ∧ jm_tg H r = jm_ci e.2.1 + 1 then some (some (.ref r :: as), q) else none | _ => none) else none
  | .invokespecial _ => if e.1 = 5 then (match st with | .ref _ :: q => if jm_cs q ≤ 8 then some (none, q) else none | _ => none)
      else if e.1 = 3 ∨ e.1 = 4 then (match jm_cut st (jm_np e.2.1 + 1) with | some (.ref r :: as, q) => if jm_cs q ≤ 8 then some (some (.ref r :: as), q) else none | _ => none) else none
  | _ => none
def jm_en (mi : Nat) (as : List Value) : List Value := let l := as.flatMap (fun v => if jm_v2 v then [v, .null] else [v]); l ++ List.replicate (jm_mx mi - l.length) .null
def jm_ex (S : Option (Nat × (Nat → Int32))) : Nat → Nat → Nat → Nat → List Value → List Value → jm_H → Option (Option Value × jm_H)
  | 0, _, _, _, _, _, _ => none
  | n + 1, D, mi, pc, ls, st, H => match jm_at mi pc with
    | none => none
    | some ins => match jm_kd ins with
      | 0 => (match jm_alu ins st with | none => none | some st' => jm_ex S n D mi (pc + jm_len ins) ls st' H)
      | 1 => (match jm_loc ins ls st with | none => none | some x => jm_ex S n D mi (pc + jm_len ins) x.1 x.2 H)
      | 2 => (match jm_br ins pc st with | none => none | some x => jm_ex S n D mi x.1 ls x.2 H)
      | 3 => (match jm_hp S ins (jm_rv mi ins) st H with | none => none | some x => jm_ex S n D mi (pc + jm_len ins) ls x.1 x.2)
      | 4 => (match jm_rt (jm_ret mi) ins st with | none => none | some r => some (r, H))
      | _ => (match jm_cl ins (jm_rv mi ins) st H with
        | none => none
        | some x => match x.1 with
          | none => jm_ex S n D mi (pc + 3) ls x.2 H
          | some as => if jm_rk (jm_rv mi ins).2.1 as < D then (match jm_ex S n (jm_rk (jm_rv mi ins).2.1 as) (jm_rv mi ins).2.1 0 (jm_en (jm_rv mi ins).2.1 as) [] H with
            | none => none
            | some y => jm_ex S n D mi (pc + 3) ls (y.1.toList ++ x.2) y.2) else none)
