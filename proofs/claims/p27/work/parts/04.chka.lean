/-! the tables are right: the instructions are the code's, the words of the links stand among the tables' -/
def jm_T (a : Nat) : u_T := (jm_cl0.getD a (RX0, TX0, 2)).2.1
def jm_N (a : Nat) : Nat := (jm_cl0.getD a (RX0, TX0, 2)).2.2
def jm_C (a : Nat) : String := (jm_cl0.getD a (RX0, TX0, 2)).1
def jm_wd (own : String) (idx : Nat) (e : Nat × Nat × Nat × Int) : List Jvm.Cond := match e.1 with
  | 0 => [.fieldLink own idx (jm_T e.2.1 e.2.2.1).1 (jm_T e.2.1 e.2.2.1).2.1 (jm_T e.2.1 e.2.2.1).2.2.1]
  | 1 => [.methodLink own idx (jm_y e.2.1), .static (jm_y e.2.1), .initialized (jm_y e.2.1).cls]
  | 2 => [.methodLink own idx (jm_y e.2.1), .instanceMethod (jm_y e.2.1), .selects (jm_y e.2.1).cls (jm_y e.2.1) (jm_y e.2.1), .initialized (jm_y e.2.1).cls]
  | 3 => [.methodLink own idx (jm_y e.2.1), .instanceMethod (jm_y e.2.1), .initialized (jm_y e.2.1).cls]
  | 4 => [.methodLinkNest own idx (jm_y e.2.1) "TaperedNumbers", .instanceMethod (jm_y e.2.1), .initialized (jm_y e.2.1).cls]
  | 5 => [.methodLink own idx Lib.objectInit]
  | 6 => [.classLink own idx (jm_C e.2.1), .instantiable (jm_C e.2.1) e.2.2.1, .initialized (jm_C e.2.1)]
  | 7 => [.classLink own idx (jm_C e.2.2.1), .arrayOver (.object (jm_C e.2.2.1))]
  | 8 => [.constant own idx (Int32.ofInt e.2.2.2)]
  | 9 => [.constantLong own idx (Int64.ofInt e.2.2.2)]
  | _ => []
def jm_xk (ci : Nat) (x : Nat × (Nat × Nat × Nat × Int) × List Nat) : Bool := decide (x.2.2.map (fun p => lw_tbl[p]?) = (jm_wd (jm_own.getD ci "") x.1 x.2.1).map some) && (match x.2.1.1 with
  | 0 => decide (x.2.1.2.1 < 13) && decide (x.2.1.2.2.1 < jm_N x.2.1.2.1)
  | 1 => decide (x.2.1.2.1 < 255)
  | 2 => decide (x.2.1.2.1 < 255)
  | 3 => decide (x.2.1.2.1 < 255) && decide ((jm_y x.2.1.2.1).name = "<init>") && decide (jm_ret x.2.1.2.1 = none)
  | 4 => decide (x.2.1.2.1 < 255) && decide ((jm_y x.2.1.2.1).name = "<init>") && decide (jm_ret x.2.1.2.1 = none)
  | 5 => true
  | 6 => decide (x.2.1.2.1 < 13) && decide (x.2.1.2.2.1 = jm_N x.2.1.2.1)
  | 7 => (decide (x.2.1.2.1 = 104) && decide (x.2.1.2.2.1 = 6)) || (decide (x.2.1.2.1 = 105) && decide (x.2.1.2.2.1 = 5))
  | 8 => true
  | 9 => true
  | _ => false)
def jm_xi (mi : Nat) (x : Nat × Instr) : Bool := (match decode (jm_b mi) x.1 with
    | .ok (i', l) => decide (i' = x.2) && (jm_sw x.2 || decide (l = jm_len x.2))
    | _ => false) && (match x.2 with
    | .putfield _ => !((jm_fin.getD (jm_rv mi x.2).2.1 []).getD (jm_rv mi x.2).2.2.1 false) || (decide ((jm_y mi).name = "<init>") && decide ((jm_y mi).cls = (jm_T (jm_rv mi x.2).2.1 (jm_rv mi x.2).2.2.1).1))
    | _ => true)
def jm_xc (mi : Nat) : Bool := (jm_pg mi).all (jm_xi mi)
def jm_xm (mi : Nat) : Bool := decide ((jm_y mi).cls = jm_own.getD (jm_ci mi) "") && decide ((jm_y mi).cls ≠ "java/lang/invoke/MethodHandle" ∧ (jm_y mi).cls ≠ "java/lang/invoke/VarHandle") && decide ((parseMethodDescriptor (jm_y mi).desc).map (fun d => d.parameters.length) = some (jm_np mi)) && plainFor (jm_y mi) && decide (jm_mx mi ≤ 22)
def jm_xp (mi : Nat) : Bool := decide (lw_tbl[jm_cp mi]? = some (.code (jm_y mi) (jm_b mi) (jm_mx mi) (jm_ret mi)))
def jm_xl (ci : Nat) : Bool := decide ((jm_lp.getD ci []).map (fun p => lw_tbl[p]?) = (u_ws (jm_C ci) (jm_T ci) (jm_N ci)).map some) && decide (jm_nf ci = jm_N ci) && decide (lw_tbl[jm_ip.getD ci 0]? = some (.instantiable (jm_C ci) (jm_N ci)))

def jt_X : Nat → List Jvm.Cond
  | 0 => lw_tbl
  | k + 1 => (jt_X k).drop 32
def jt_g (p : Nat) : Option Jvm.Cond := (jt_X (p / 32))[p % 32]?
theorem jt_X_e : ∀ k, jt_X k = lw_tbl.drop (32 * k)
  | 0 => rfl
  | k + 1 => by
    show (jt_X k).drop 32 = _
    rw [jt_X_e k, List.drop_drop]
    rfl
theorem jt_g_e (p : Nat) : jt_g p = lw_tbl[p]? := by
  unfold jt_g
  rw [jt_X_e, List.getElem?_drop, Nat.div_add_mod]
theorem jt_f : (fun p => jt_g p) = (fun p => lw_tbl[p]?) := funext jt_g_e
def jm_xq (mi : Nat) : Bool := match jt_g (jm_cp mi) with
  | some (.code y b m r) => decide (y = jm_y mi) && decide (b.data.toList = (jm_b mi).data.toList) && decide (m = jm_mx mi) && decide (r = jm_ret mi)
  | _ => false
theorem jm_xp_q {mi : Nat} (h : jm_xq mi = true) : jm_xp mi = true := by
  unfold jm_xq at h
  split at h
  · rename_i y b m r hq
    obtain ⟨h123, h4⟩ := (Bool.and_eq_true _ _).mp h
    obtain ⟨h12, h3⟩ := (Bool.and_eq_true _ _).mp h123
    obtain ⟨h1, h2⟩ := (Bool.and_eq_true _ _).mp h12
    rw [jt_g_e] at hq
    have hb : b = jm_b mi := ByteArray.ext (Array.toList_inj.mp (of_decide_eq_true h2))
    unfold jm_xp
    exact decide_eq_true (by rw [hq, of_decide_eq_true h1, hb, of_decide_eq_true h3, of_decide_eq_true h4])
  · cases h
theorem jm_all_xq {a n : Nat} (h : (List.range n).all (fun i => jm_xq (a + i)) = true) : (List.range n).all (fun i => jm_xp (a + i)) = true := List.all_eq_true.mpr (fun i hi => jm_xp_q (List.all_eq_true.mp h i hi))
def jm_xkq (ci : Nat) (x : Nat × (Nat × Nat × Nat × Int) × List Nat) : Bool := decide (x.2.2.map (fun p => jt_g p) = (jm_wd (jm_own.getD ci "") x.1 x.2.1).map some) && (match x.2.1.1 with
  | 0 => decide (x.2.1.2.1 < 13) && decide (x.2.1.2.2.1 < jm_N x.2.1.2.1)
  | 1 => decide (x.2.1.2.1 < 255)
  | 2 => decide (x.2.1.2.1 < 255)
  | 3 => decide (x.2.1.2.1 < 255) && decide ((jm_y x.2.1.2.1).name = "<init>") && decide (jm_ret x.2.1.2.1 = none)
  | 4 => decide (x.2.1.2.1 < 255) && decide ((jm_y x.2.1.2.1).name = "<init>") && decide (jm_ret x.2.1.2.1 = none)
  | 5 => true
  | 6 => decide (x.2.1.2.1 < 13) && decide (x.2.1.2.2.1 = jm_N x.2.1.2.1)
  | 7 => (decide (x.2.1.2.1 = 104) && decide (x.2.1.2.2.1 = 6)) || (decide (x.2.1.2.1 = 105) && decide (x.2.1.2.2.1 = 5))
  | 8 => true
  | 9 => true
  | _ => false)
def jm_xlq (ci : Nat) : Bool := decide ((jm_lp.getD ci []).map (fun p => jt_g p) = (u_ws (jm_C ci) (jm_T ci) (jm_N ci)).map some) && decide (jm_nf ci = jm_N ci) && decide (jt_g (jm_ip.getD ci 0) = some (.instantiable (jm_C ci) (jm_N ci)))
theorem jm_xk_q {ci : Nat} {x : Nat × (Nat × Nat × Nat × Int) × List Nat} (h : jm_xkq ci x = true) : jm_xk ci x = true := by
  unfold jm_xkq at h
  unfold jm_xk
  rw [← jt_f]
  exact h
theorem jm_all_xk {ci : Nat} {c : List (Nat × (Nat × Nat × Nat × Int) × List Nat)} (h : c.all (jm_xkq ci) = true) : c.all (jm_xk ci) = true := List.all_eq_true.mpr (fun x hx => jm_xk_q (List.all_eq_true.mp h x hx))
theorem jm_xl_q {ci : Nat} (h : jm_xlq ci = true) : jm_xl ci = true := by
  unfold jm_xlq at h
  unfold jm_xl
  rw [← jt_f, ← jt_g_e]
  exact h
def jn_ds (d : String) : Bool := decide (d = "(J)J") || decide (d = "(II)I") || decide (d = "(JJ)J")
theorem jn_none {rows : List NativeRow} {c n d : String} (h : rows.all (fun r => decide (r.cls ≠ c) || !(jn_ds r.desc)) = true) (hd : jn_ds d = true) : (NativeRow.find? rows c n d).isNone = true := by
  unfold NativeRow.find?
  rw [Option.isNone_iff_eq_none, List.find?_eq_none]
  intro r hr hq
  obtain ⟨h12, h3⟩ := (Bool.and_eq_true _ _).mp hq
  obtain ⟨_, h2⟩ := (Bool.and_eq_true _ _).mp h12
  rcases (Bool.or_eq_true _ _).mp (List.all_eq_true.mp h r hr) with g | g
  · exact of_decide_eq_true g (eq_of_beq h2)
  · rw [eq_of_beq h3, hd] at g
    cases g
theorem jn_tn : Jvm.natives.all (fun r => decide (r.cls ≠ "java/lang/Math") || !(jn_ds r.desc)) = true := by decide +kernel
def jn_pl (x : MethodName) : Bool := (decide (x.cls = "java/lang/Math") && jn_ds x.desc) || plainName x.cls
theorem jn_plain {x : MethodName} (h : (jn_pl x || plainFor x) = true) : plainFor x = true := by
  rcases (Bool.or_eq_true _ _).mp h with h | h
  · unfold plainFor
    rcases (Bool.or_eq_true _ _).mp h with h | h
    · obtain ⟨h1, h2⟩ := (Bool.and_eq_true _ _).mp h
      rw [of_decide_eq_true h1, jn_none jn_tn h2, Bool.or_true]
    · rw [h, Bool.true_or]
  · exact h
def jm_xmq (mi : Nat) : Bool := decide ((jm_y mi).cls = jm_own.getD (jm_ci mi) "") && decide ((jm_y mi).cls ≠ "java/lang/invoke/MethodHandle" ∧ (jm_y mi).cls ≠ "java/lang/invoke/VarHandle") && decide ((parseMethodDescriptor (jm_y mi).desc).map (fun d => d.parameters.length) = some (jm_np mi)) && (jn_pl (jm_y mi) || plainFor (jm_y mi)) && decide (jm_mx mi ≤ 22)
theorem jm_xm_q {mi : Nat} (h : jm_xmq mi = true) : jm_xm mi = true := by
  unfold jm_xmq at h
  obtain ⟨h1, h2⟩ := (Bool.and_eq_true _ _).mp h
  obtain ⟨h3, h4⟩ := (Bool.and_eq_true _ _).mp h1
  unfold jm_xm
  rw [h3, jn_plain h4, h2]
  rfl
theorem jm_all_xm {a n : Nat} (h : (List.range n).all (fun i => jm_xmq (a + i)) = true) : (List.range n).all (fun i => jm_xm (a + i)) = true := List.all_eq_true.mpr (fun i hi => jm_xm_q (List.all_eq_true.mp h i hi))
def jf_R (b : ByteArray) (p k : Nat) : Prop := ∃ h : p < b.size, (b[p]).toNat = k
theorem jf_u1 {b : ByteArray} {p k : Nat} (h : jf_R b p k) : (Reader.u1 : Decoder Nat) b p = Except.ok (k, p + 1) := by
  obtain ⟨h, rfl⟩ := h
  show (if h : p < b.size then _ else _ : Decoder Nat) b p = _
  rw [dif_pos h]
  rfl
theorem jf_bind {α β : Type} {x : Decoder α} {f : α → Decoder β} {b : ByteArray} {p q : Nat} {a : α} (h : x b p = Except.ok (a, q)) : (x >>= f) b p = f a b q := by
  show Except.bind (x b p) (fun s => f s.1 b s.2) = _
  rw [h]
  rfl
theorem jf_u2 {b : ByteArray} {p n : Nat} (h1 : jf_R b p (n / 256)) (h2 : jf_R b (p + 1) (n % 256)) : (Reader.u2 : Decoder Nat) b p = Except.ok (n, p + 2) := by
  refine (jf_bind (jf_u1 h1)).trans ((jf_bind (jf_u1 h2)).trans ?_)
  show Except.ok (n / 256 * 256 + n % 256, p + 1 + 1) = _
  rw [Nat.mul_comm, Nat.div_add_mod]
theorem jf_s1 {b : ByteArray} {p k : Nat} (h : jf_R b p k) : (Reader.s1 : Decoder Int) b p = Except.ok (Reader.signed 8 k, p + 1) := by
  show Except.map _ ((Reader.u1 : Decoder Nat) b p) = _
  rw [jf_u1 h]
  rfl
theorem jf_s2 {b : ByteArray} {p n : Nat} (h1 : jf_R b p (n / 256)) (h2 : jf_R b (p + 1) (n % 256)) : (Reader.s2 : Decoder Int) b p = Except.ok (Reader.signed 16 n, p + 2) := by
  show Except.map _ ((Reader.u2 : Decoder Nat) b p) = _
  rw [jf_u2 h1 h2]
  rfl
theorem jf_D {b : ByteArray} {p l : Nat} {i : Instr} (h : Decoder.instr p b p = Except.ok (i, p + l)) : decode b p = .ok (i, l) := by
  show Except.bind (Decoder.instr p b p) (fun s => Except.ok (s.1, s.2 - p)) = _
  rw [h]
  show Except.ok (i, p + l - p) = _
  rw [Nat.add_sub_cancel_left]
theorem jf_p1 (C : Nat → Instr) {b : ByteArray} {p n : Nat} (h1 : jf_R b p n) : (Reader.u1 >>= fun n => Pure.pure (C n) : Decoder Instr) b p = Except.ok (C n, p + 1) := (jf_bind (jf_u1 h1)).trans rfl
theorem jf_p2 (C : Nat → Instr) {b : ByteArray} {p n : Nat} (h1 : jf_R b p (n / 256)) (h2 : jf_R b (p + 1) (n % 256)) : (Reader.u2 >>= fun n => Pure.pure (C n) : Decoder Instr) b p = Except.ok (C n, p + 2) := (jf_bind (jf_u2 h1 h2)).trans rfl
theorem jf_q1 (C : Int → Instr) {b : ByteArray} {p k : Nat} {z : Int} (hz : Reader.signed 8 k = z) (h1 : jf_R b p k) : (Reader.s1 >>= fun n => Pure.pure (C n) : Decoder Instr) b p = Except.ok (C z, p + 1) := by
  subst hz
  exact (jf_bind (jf_s1 h1)).trans rfl
theorem jf_q2 (C : Int → Instr) {b : ByteArray} {p n : Nat} {z : Int} (hz : Reader.signed 16 n = z) (h1 : jf_R b p (n / 256)) (h2 : jf_R b (p + 1) (n % 256)) : (Reader.s2 >>= fun n => Pure.pure (C n) : Decoder Instr) b p = Except.ok (C z, p + 2) := by
  subst hz
  exact (jf_bind (jf_s2 h1 h2)).trans rfl
theorem jf_11 {b : ByteArray} {p n k : Nat} {z : Int} (hz : Reader.signed 8 k = z) (h1 : jf_R b p n) (h2 : jf_R b (p + 1) k) : (Reader.u1 >>= fun n => Reader.s1 >>= fun k => Pure.pure (.iinc n k) : Decoder Instr) b p = Except.ok (.iinc n z, p + 2) := by
  subst hz
  exact (jf_bind (jf_u1 h1)).trans ((jf_bind (jf_s1 h2)).trans rfl)
def jf_A (b : ByteArray) : Nat → List Nat → Prop
  | _, [] => True
  | p, k :: e => jf_R b p k ∧ jf_A b (p + 1) e
def jf_E (i : Instr) : Type := { e : List Nat // ∀ b p, jf_A b p e → decode b p = .ok (i, e.length) }
def jf_enc : (i : Instr) → Option (jf_E i)
  | .iaload => some ⟨[46], fun b p h => jf_D ((jf_bind (jf_u1 h.1)).trans rfl)⟩
  | .laload => some ⟨[47], fun b p h => jf_D ((jf_bind (jf_u1 h.1)).trans rfl)⟩
  | .aaload => some ⟨[50], fun b p h => jf_D ((jf_bind (jf_u1 h.1)).trans rfl)⟩
  | .baload => some ⟨[51], fun b p h => jf_D ((jf_bind (jf_u1 h.1)).trans rfl)⟩
  | .caload => some ⟨[52], fun b p h => jf_D ((jf_bind (jf_u1 h.1)).trans rfl)⟩
  | .iastore => some ⟨[79], fun b p h => jf_D ((jf_bind (jf_u1 h.1)).trans rfl)⟩
  | .lastore => some ⟨[80], fun b p h => jf_D ((jf_bind (jf_u1 h.1)).trans rfl)⟩
  | .aastore => some ⟨[83], fun b p h => jf_D ((jf_bind (jf_u1 h.1)).trans rfl)⟩
  | .bastore => some ⟨[84], fun b p h => jf_D ((jf_bind (jf_u1 h.1)).trans rfl)⟩
  | .castore => some ⟨[85], fun b p h => jf_D ((jf_bind (jf_u1 h.1)).trans rfl)⟩
  | .pop => some ⟨[87], fun b p h => jf_D ((jf_bind (jf_u1 h.1)).trans rfl)⟩
  | .pop2 => some ⟨[88], fun b p h => jf_D ((jf_bind (jf_u1 h.1)).trans rfl)⟩
  | .dup => some ⟨[89], fun b p h => jf_D ((jf_bind (jf_u1 h.1)).trans rfl)⟩
  | .dup_x1 => some ⟨[90], fun b p h => jf_D ((jf_bind (jf_u1 h.1)).trans rfl)⟩
  | .dup_x2 => some ⟨[91], fun b p h => jf_D ((jf_bind (jf_u1 h.1)).trans rfl)⟩
  | .dup2 => some ⟨[92], fun b p h => jf_D ((jf_bind (jf_u1 h.1)).trans rfl)⟩
  | .iadd => some ⟨[96], fun b p h => jf_D ((jf_bind (jf_u1 h.1)).trans rfl)⟩
  | .ladd => some ⟨[97], fun b p h => jf_D ((jf_bind (jf_u1 h.1)).trans rfl)⟩
  | .isub => some ⟨[100], fun b p h => jf_D ((jf_bind (jf_u1 h.1)).trans rfl)⟩
  | .lsub => some ⟨[101], fun b p h => jf_D ((jf_bind (jf_u1 h.1)).trans rfl)⟩
  | .imul => some ⟨[104], fun b p h => jf_D ((jf_bind (jf_u1 h.1)).trans rfl)⟩
  | .lmul => some ⟨[105], fun b p h => jf_D ((jf_bind (jf_u1 h.1)).trans rfl)⟩
  | .idiv => some ⟨[108], fun b p h => jf_D ((jf_bind (jf_u1 h.1)).trans rfl)⟩
  | .ldiv => some ⟨[109], fun b p h => jf_D ((jf_bind (jf_u1 h.1)).trans rfl)⟩
  | .irem => some ⟨[112], fun b p h => jf_D ((jf_bind (jf_u1 h.1)).trans rfl)⟩
  | .lrem => some ⟨[113], fun b p h => jf_D ((jf_bind (jf_u1 h.1)).trans rfl)⟩
  | .ineg => some ⟨[116], fun b p h => jf_D ((jf_bind (jf_u1 h.1)).trans rfl)⟩
  | .lneg => some ⟨[117], fun b p h => jf_D ((jf_bind (jf_u1 h.1)).trans rfl)⟩
  | .ishl => some ⟨[120], fun b p h => jf_D ((jf_bind (jf_u1 h.1)).trans rfl)⟩
  | .lshl => some ⟨[121], fun b p h => jf_D ((jf_bind (jf_u1 h.1)).trans rfl)⟩
  | .ishr => some ⟨[122], fun b p h => jf_D ((jf_bind (jf_u1 h.1)).trans rfl)⟩
  | .lshr => some ⟨[123], fun b p h => jf_D ((jf_bind (jf_u1 h.1)).trans rfl)⟩
  | .iushr => some ⟨[124], fun b p h => jf_D ((jf_bind (jf_u1 h.1)).trans rfl)⟩
  | .lushr => some ⟨[125], fun b p h => jf_D ((jf_bind (jf_u1 h.1)).trans rfl)⟩
  | .iand => some ⟨[126], fun b p h => jf_D ((jf_bind (jf_u1 h.1)).trans rfl)⟩
  | .land => some ⟨[127], fun b p h => jf_D ((jf_bind (jf_u1 h.1)).trans rfl)⟩
  | .ior => some ⟨[128], fun b p h => jf_D ((jf_bind (jf_u1 h.1)).trans rfl)⟩
  | .lor => some ⟨[129], fun b p h => jf_D ((jf_bind (jf_u1 h.1)).trans rfl)⟩
  | .ixor => some ⟨[130], fun b p h => jf_D ((jf_bind (jf_u1 h.1)).trans rfl)⟩
  | .lxor => some ⟨[131], fun b p h => jf_D ((jf_bind (jf_u1 h.1)).trans rfl)⟩
  | .i2l => some ⟨[133], fun b p h => jf_D ((jf_bind (jf_u1 h.1)).trans rfl)⟩
  | .l2i => some ⟨[136], fun b p h => jf_D ((jf_bind (jf_u1 h.1)).trans rfl)⟩
  | .i2b => some ⟨[145], fun b p h => jf_D ((jf_bind (jf_u1 h.1)).trans rfl)⟩
  | .i2c => some ⟨[146], fun b p h => jf_D ((jf_bind (jf_u1 h.1)).trans rfl)⟩
  | .i2s => some ⟨[147], fun b p h => jf_D ((jf_bind (jf_u1 h.1)).trans rfl)⟩
  | .lcmp => some ⟨[148], fun b p h => jf_D ((jf_bind (jf_u1 h.1)).trans rfl)⟩
  | .ireturn => some ⟨[172], fun b p h => jf_D ((jf_bind (jf_u1 h.1)).trans rfl)⟩
  | .lreturn => some ⟨[173], fun b p h => jf_D ((jf_bind (jf_u1 h.1)).trans rfl)⟩
  | .areturn => some ⟨[176], fun b p h => jf_D ((jf_bind (jf_u1 h.1)).trans rfl)⟩
  | .return_ => some ⟨[177], fun b p h => jf_D ((jf_bind (jf_u1 h.1)).trans rfl)⟩
  | .arraylength => some ⟨[190], fun b p h => jf_D ((jf_bind (jf_u1 h.1)).trans rfl)⟩
  | .athrow => some ⟨[191], fun b p h => jf_D ((jf_bind (jf_u1 h.1)).trans rfl)⟩
  | .aconst_null => some ⟨[1], fun b p h => jf_D ((jf_bind (jf_u1 h.1)).trans rfl)⟩
  | .ldc n => some ⟨[18, n], fun b p h => jf_D ((jf_bind (jf_u1 h.1)).trans (jf_p1 .ldc h.2.1))⟩
  | .iload n => some ⟨[21, n], fun b p h => jf_D ((jf_bind (jf_u1 h.1)).trans (jf_p1 .iload h.2.1))⟩
  | .lload n => some ⟨[22, n], fun b p h => jf_D ((jf_bind (jf_u1 h.1)).trans (jf_p1 .lload h.2.1))⟩
  | .aload n => some ⟨[25, n], fun b p h => jf_D ((jf_bind (jf_u1 h.1)).trans (jf_p1 .aload h.2.1))⟩
  | .istore n => some ⟨[54, n], fun b p h => jf_D ((jf_bind (jf_u1 h.1)).trans (jf_p1 .istore h.2.1))⟩
  | .lstore n => some ⟨[55, n], fun b p h => jf_D ((jf_bind (jf_u1 h.1)).trans (jf_p1 .lstore h.2.1))⟩
  | .astore n => some ⟨[58, n], fun b p h => jf_D ((jf_bind (jf_u1 h.1)).trans (jf_p1 .astore h.2.1))⟩
  | .ldc_w n => some ⟨[19, n / 256, n % 256], fun b p h => jf_D ((jf_bind (jf_u1 h.1)).trans (jf_p2 .ldc_w h.2.1 h.2.2.1))⟩
  | .ldc2_w n => some ⟨[20, n / 256, n % 256], fun b p h => jf_D ((jf_bind (jf_u1 h.1)).trans (jf_p2 .ldc2_w h.2.1 h.2.2.1))⟩
  | .getstatic n => some ⟨[178, n / 256, n % 256], fun b p h => jf_D ((jf_bind (jf_u1 h.1)).trans (jf_p2 .getstatic h.2.1 h.2.2.1))⟩
  | .putstatic n => some ⟨[179, n / 256, n % 256], fun b p h => jf_D ((jf_bind (jf_u1 h.1)).trans (jf_p2 .putstatic h.2.1 h.2.2.1))⟩
  | .getfield n => some ⟨[180, n / 256, n % 256], fun b p h => jf_D ((jf_bind (jf_u1 h.1)).trans (jf_p2 .getfield h.2.1 h.2.2.1))⟩
  | .putfield n => some ⟨[181, n / 256, n % 256], fun b p h => jf_D ((jf_bind (jf_u1 h.1)).trans (jf_p2 .putfield h.2.1 h.2.2.1))⟩
  | .invokevirtual n => some ⟨[182, n / 256, n % 256], fun b p h => jf_D ((jf_bind (jf_u1 h.1)).trans (jf_p2 .invokevirtual h.2.1 h.2.2.1))⟩
  | .invokespecial n => some ⟨[183, n / 256, n % 256], fun b p h => jf_D ((jf_bind (jf_u1 h.1)).trans (jf_p2 .invokespecial h.2.1 h.2.2.1))⟩
  | .invokestatic n => some ⟨[184, n / 256, n % 256], fun b p h => jf_D ((jf_bind (jf_u1 h.1)).trans (jf_p2 .invokestatic h.2.1 h.2.2.1))⟩
  | .new n => some ⟨[187, n / 256, n % 256], fun b p h => jf_D ((jf_bind (jf_u1 h.1)).trans (jf_p2 .new h.2.1 h.2.2.1))⟩
  | .anewarray n => some ⟨[189, n / 256, n % 256], fun b p h => jf_D ((jf_bind (jf_u1 h.1)).trans (jf_p2 .anewarray h.2.1 h.2.2.1))⟩
  | .checkcast n => some ⟨[192, n / 256, n % 256], fun b p h => jf_D ((jf_bind (jf_u1 h.1)).trans (jf_p2 .checkcast h.2.1 h.2.2.1))⟩
  | .instanceof n => some ⟨[193, n / 256, n % 256], fun b p h => jf_D ((jf_bind (jf_u1 h.1)).trans (jf_p2 .instanceof h.2.1 h.2.2.1))⟩
  | .bipush z => if g : Reader.signed 8 (z % 256).toNat = z then some ⟨[16, (z % 256).toNat], fun b p h => jf_D ((jf_bind (jf_u1 h.1)).trans (jf_q1 .bipush g h.2.1))⟩ else none
  | .sipush z => if g : Reader.signed 16 (z % 65536).toNat = z then some ⟨[17, (z % 65536).toNat / 256, (z % 65536).toNat % 256], fun b p h => jf_D ((jf_bind (jf_u1 h.1)).trans (jf_q2 .sipush g h.2.1 h.2.2.1))⟩ else none
  | .goto z => if g : Reader.signed 16 (z % 65536).toNat = z then some ⟨[167, (z % 65536).toNat / 256, (z % 65536).toNat % 256], fun b p h => jf_D ((jf_bind (jf_u1 h.1)).trans (jf_q2 .goto g h.2.1 h.2.2.1))⟩ else none
  | .ifnull z => if g : Reader.signed 16 (z % 65536).toNat = z then some ⟨[198, (z % 65536).toNat / 256, (z % 65536).toNat % 256], fun b p h => jf_D ((jf_bind (jf_u1 h.1)).trans (jf_q2 .ifnull g h.2.1 h.2.2.1))⟩ else none
  | .ifnonnull z => if g : Reader.signed 16 (z % 65536).toNat = z then some ⟨[199, (z % 65536).toNat / 256, (z % 65536).toNat % 256], fun b p h => jf_D ((jf_bind (jf_u1 h.1)).trans (jf_q2 .ifnonnull g h.2.1 h.2.2.1))⟩ else none
  | .ifCond .eq z => if g : Reader.signed 16 (z % 65536).toNat = z then some ⟨[153, (z % 65536).toNat / 256, (z % 65536).toNat % 256], fun b p h => jf_D ((jf_bind (jf_u1 h.1)).trans (jf_q2 (.ifCond .eq) g h.2.1 h.2.2.1))⟩ else none
  | .if_icmp .eq z => if g : Reader.signed 16 (z % 65536).toNat = z then some ⟨[159, (z % 65536).toNat / 256, (z % 65536).toNat % 256], fun b p h => jf_D ((jf_bind (jf_u1 h.1)).trans (jf_q2 (.if_icmp .eq) g h.2.1 h.2.2.1))⟩ else none
  | .ifCond .ne z => if g : Reader.signed 16 (z % 65536).toNat = z then some ⟨[154, (z % 65536).toNat / 256, (z % 65536).toNat % 256], fun b p h => jf_D ((jf_bind (jf_u1 h.1)).trans (jf_q2 (.ifCond .ne) g h.2.1 h.2.2.1))⟩ else none
  | .if_icmp .ne z => if g : Reader.signed 16 (z % 65536).toNat = z then some ⟨[160, (z % 65536).toNat / 256, (z % 65536).toNat % 256], fun b p h => jf_D ((jf_bind (jf_u1 h.1)).trans (jf_q2 (.if_icmp .ne) g h.2.1 h.2.2.1))⟩ else none
  | .ifCond .lt z => if g : Reader.signed 16 (z % 65536).toNat = z then some ⟨[155, (z % 65536).toNat / 256, (z % 65536).toNat % 256], fun b p h => jf_D ((jf_bind (jf_u1 h.1)).trans (jf_q2 (.ifCond .lt) g h.2.1 h.2.2.1))⟩ else none
  | .if_icmp .lt z => if g : Reader.signed 16 (z % 65536).toNat = z then some ⟨[161, (z % 65536).toNat / 256, (z % 65536).toNat % 256], fun b p h => jf_D ((jf_bind (jf_u1 h.1)).trans (jf_q2 (.if_icmp .lt) g h.2.1 h.2.2.1))⟩ else none
  | .ifCond .ge z => if g : Reader.signed 16 (z % 65536).toNat = z then some ⟨[156, (z % 65536).toNat / 256, (z % 65536).toNat % 256], fun b p h => jf_D ((jf_bind (jf_u1 h.1)).trans (jf_q2 (.ifCond .ge) g h.2.1 h.2.2.1))⟩ else none
  | .if_icmp .ge z => if g : Reader.signed 16 (z % 65536).toNat = z then some ⟨[162, (z % 65536).toNat / 256, (z % 65536).toNat % 256], fun b p h => jf_D ((jf_bind (jf_u1 h.1)).trans (jf_q2 (.if_icmp .ge) g h.2.1 h.2.2.1))⟩ else none
  | .ifCond .gt z => if g : Reader.signed 16 (z % 65536).toNat = z then some ⟨[157, (z % 65536).toNat / 256, (z % 65536).toNat % 256], fun b p h => jf_D ((jf_bind (jf_u1 h.1)).trans (jf_q2 (.ifCond .gt) g h.2.1 h.2.2.1))⟩ else none
  | .if_icmp .gt z => if g : Reader.signed 16 (z % 65536).toNat = z then some ⟨[163, (z % 65536).toNat / 256, (z % 65536).toNat % 256], fun b p h => jf_D ((jf_bind (jf_u1 h.1)).trans (jf_q2 (.if_icmp .gt) g h.2.1 h.2.2.1))⟩ else none
  | .ifCond .le z => if g : Reader.signed 16 (z % 65536).toNat = z then some ⟨[158, (z % 65536).toNat / 256, (z % 65536).toNat % 256], fun b p h => jf_D ((jf_bind (jf_u1 h.1)).trans (jf_q2 (.ifCond .le) g h.2.1 h.2.2.1))⟩ else none
  | .if_icmp .le z => if g : Reader.signed 16 (z % 65536).toNat = z then some ⟨[164, (z % 65536).toNat / 256, (z % 65536).toNat % 256], fun b p h => jf_D ((jf_bind (jf_u1 h.1)).trans (jf_q2 (.if_icmp .le) g h.2.1 h.2.2.1))⟩ else none
  | .if_acmp .eq z => if g : Reader.signed 16 (z % 65536).toNat = z then some ⟨[165, (z % 65536).toNat / 256, (z % 65536).toNat % 256], fun b p h => jf_D ((jf_bind (jf_u1 h.1)).trans (jf_q2 (.if_acmp .eq) g h.2.1 h.2.2.1))⟩ else none
  | .if_acmp .ne z => if g : Reader.signed 16 (z % 65536).toNat = z then some ⟨[166, (z % 65536).toNat / 256, (z % 65536).toNat % 256], fun b p h => jf_D ((jf_bind (jf_u1 h.1)).trans (jf_q2 (.if_acmp .ne) g h.2.1 h.2.2.1))⟩ else none
  | .iinc n z => if g : Reader.signed 8 (z % 256).toNat = z then some ⟨[132, n, (z % 256).toNat], fun b p h => jf_D ((jf_bind (jf_u1 h.1)).trans (jf_11 g h.2.1 h.2.2.1))⟩ else none
  | .newarray .boolean => some ⟨[188, 4], fun b p h => jf_D ((jf_bind (jf_u1 h.1)).trans ((jf_bind (jf_u1 h.2.1)).trans rfl))⟩
  | .newarray .char => some ⟨[188, 5], fun b p h => jf_D ((jf_bind (jf_u1 h.1)).trans ((jf_bind (jf_u1 h.2.1)).trans rfl))⟩
  | .newarray .byte => some ⟨[188, 8], fun b p h => jf_D ((jf_bind (jf_u1 h.1)).trans ((jf_bind (jf_u1 h.2.1)).trans rfl))⟩
  | .newarray .short => some ⟨[188, 9], fun b p h => jf_D ((jf_bind (jf_u1 h.1)).trans ((jf_bind (jf_u1 h.2.1)).trans rfl))⟩
  | .newarray .int => some ⟨[188, 10], fun b p h => jf_D ((jf_bind (jf_u1 h.1)).trans ((jf_bind (jf_u1 h.2.1)).trans rfl))⟩
  | .newarray .long => some ⟨[188, 11], fun b p h => jf_D ((jf_bind (jf_u1 h.1)).trans ((jf_bind (jf_u1 h.2.1)).trans rfl))⟩
  | .iload_n n => if g : n = 0 then some ⟨[26], fun b p h => g ▸ jf_D ((jf_bind (jf_u1 h.1)).trans rfl)⟩ else if g : n = 1 then some ⟨[27], fun b p h => g ▸ jf_D ((jf_bind (jf_u1 h.1)).trans rfl)⟩ else if g : n = 2 then some ⟨[28], fun b p h => g ▸ jf_D ((jf_bind (jf_u1 h.1)).trans rfl)⟩ else if g : n = 3 then some ⟨[29], fun b p h => g ▸ jf_D ((jf_bind (jf_u1 h.1)).trans rfl)⟩ else none
  | .lload_n n => if g : n = 0 then some ⟨[30], fun b p h => g ▸ jf_D ((jf_bind (jf_u1 h.1)).trans rfl)⟩ else if g : n = 1 then some ⟨[31], fun b p h => g ▸ jf_D ((jf_bind (jf_u1 h.1)).trans rfl)⟩ else if g : n = 2 then some ⟨[32], fun b p h => g ▸ jf_D ((jf_bind (jf_u1 h.1)).trans rfl)⟩ else if g : n = 3 then some ⟨[33], fun b p h => g ▸ jf_D ((jf_bind (jf_u1 h.1)).trans rfl)⟩ else none
  | .aload_n n => if g : n = 0 then some ⟨[42], fun b p h => g ▸ jf_D ((jf_bind (jf_u1 h.1)).trans rfl)⟩ else if g : n = 1 then some ⟨[43], fun b p h => g ▸ jf_D ((jf_bind (jf_u1 h.1)).trans rfl)⟩ else if g : n = 2 then some ⟨[44], fun b p h => g ▸ jf_D ((jf_bind (jf_u1 h.1)).trans rfl)⟩ else if g : n = 3 then some ⟨[45], fun b p h => g ▸ jf_D ((jf_bind (jf_u1 h.1)).trans rfl)⟩ else none
  | .istore_n n => if g : n = 0 then some ⟨[59], fun b p h => g ▸ jf_D ((jf_bind (jf_u1 h.1)).trans rfl)⟩ else if g : n = 1 then some ⟨[60], fun b p h => g ▸ jf_D ((jf_bind (jf_u1 h.1)).trans rfl)⟩ else if g : n = 2 then some ⟨[61], fun b p h => g ▸ jf_D ((jf_bind (jf_u1 h.1)).trans rfl)⟩ else if g : n = 3 then some ⟨[62], fun b p h => g ▸ jf_D ((jf_bind (jf_u1 h.1)).trans rfl)⟩ else none
  | .lstore_n n => if g : n = 0 then some ⟨[63], fun b p h => g ▸ jf_D ((jf_bind (jf_u1 h.1)).trans rfl)⟩ else if g : n = 1 then some ⟨[64], fun b p h => g ▸ jf_D ((jf_bind (jf_u1 h.1)).trans rfl)⟩ else if g : n = 2 then some ⟨[65], fun b p h => g ▸ jf_D ((jf_bind (jf_u1 h.1)).trans rfl)⟩ else if g : n = 3 then some ⟨[66], fun b p h => g ▸ jf_D ((jf_bind (jf_u1 h.1)).trans rfl)⟩ else none
  | .astore_n n => if g : n = 0 then some ⟨[75], fun b p h => g ▸ jf_D ((jf_bind (jf_u1 h.1)).trans rfl)⟩ else if g : n = 1 then some ⟨[76], fun b p h => g ▸ jf_D ((jf_bind (jf_u1 h.1)).trans rfl)⟩ else if g : n = 2 then some ⟨[77], fun b p h => g ▸ jf_D ((jf_bind (jf_u1 h.1)).trans rfl)⟩ else if g : n = 3 then some ⟨[78], fun b p h => g ▸ jf_D ((jf_bind (jf_u1 h.1)).trans rfl)⟩ else none
  | .lconst n => if g : n = 0 then some ⟨[9], fun b p h => g ▸ jf_D ((jf_bind (jf_u1 h.1)).trans rfl)⟩ else if g : n = 1 then some ⟨[10], fun b p h => g ▸ jf_D ((jf_bind (jf_u1 h.1)).trans rfl)⟩ else none
  | .iconst n => if g : n = 0 then some ⟨[3], fun b p h => g ▸ jf_D ((jf_bind (jf_u1 h.1)).trans rfl)⟩ else if g : n = 1 then some ⟨[4], fun b p h => g ▸ jf_D ((jf_bind (jf_u1 h.1)).trans rfl)⟩ else if g : n = 2 then some ⟨[5], fun b p h => g ▸ jf_D ((jf_bind (jf_u1 h.1)).trans rfl)⟩ else if g : n = (-1) then some ⟨[2], fun b p h => g ▸ jf_D ((jf_bind (jf_u1 h.1)).trans rfl)⟩ else if g : n = 3 then some ⟨[6], fun b p h => g ▸ jf_D ((jf_bind (jf_u1 h.1)).trans rfl)⟩ else if g : n = 4 then some ⟨[7], fun b p h => g ▸ jf_D ((jf_bind (jf_u1 h.1)).trans rfl)⟩ else if g : n = 5 then some ⟨[8], fun b p h => g ▸ jf_D ((jf_bind (jf_u1 h.1)).trans rfl)⟩ else none
  | _ => none
def jf_pre : List Nat → List UInt8 → Bool
  | [], _ => true
  | _ :: _, [] => false
  | k :: e, x :: bs => Nat.beq k x.toNat && jf_pre e bs
def jf_pf (mi : Nat) (i : Instr) : Bool := match i with
  | .putfield _ => !((jm_fin.getD (jm_rv mi i).2.1 []).getD (jm_rv mi i).2.2.1 false) || (decide ((jm_y mi).name = "<init>") && decide ((jm_y mi).cls = (jm_T (jm_rv mi i).2.1 (jm_rv mi i).2.2.1).1))
  | _ => true
def jf_one (mi pc : Nat) (i : Instr) (bs : List UInt8) : Bool := match jf_enc i with
  | some e => jf_pre e.1 bs && (jm_sw i || decide (e.1.length = jm_len i)) && jf_pf mi i
  | none => jm_xi mi (pc, i)
def jf_wk (mi : Nat) : List (Nat × Instr) → Nat → List UInt8 → Bool
  | [], _, _ => true
  | x :: r, pos, bs => Nat.ble pos x.1 && (jf_one mi x.1 x.2 (bs.drop (x.1 - pos)) && jf_wk mi r x.1 (bs.drop (x.1 - pos)))
theorem jf_pre_A {b : ByteArray} : ∀ (e : List Nat) (p : Nat), jf_pre e (b.data.toList.drop p) = true → jf_A b p e
  | [], _, _ => trivial
  | k :: e, p, h => by
    by_cases hp : p < b.data.toList.length
    · rw [List.drop_eq_getElem_cons hp] at h
      obtain ⟨h1, h2⟩ := (Bool.and_eq_true _ _).mp h
      exact ⟨⟨hp, (Nat.eq_of_beq_eq_true h1).symm⟩, jf_pre_A e (p + 1) h2⟩
    · rw [List.drop_eq_nil_of_le (Nat.le_of_not_lt hp)] at h
      cases h
theorem jf_one_s {mi pc : Nat} {i : Instr} (h : jf_one mi pc i ((jm_b mi).data.toList.drop pc) = true) : jm_xi mi (pc, i) = true := by
  unfold jf_one at h
  split at h
  · rename_i e he
    obtain ⟨h12, h3⟩ := (Bool.and_eq_true _ _).mp h
    obtain ⟨h1, h2⟩ := (Bool.and_eq_true _ _).mp h12
    have hd := e.2 (jm_b mi) pc (jf_pre_A _ _ h1)
    unfold jm_xi
    show ((match decode (jm_b mi) pc with
      | .ok (i', l) => decide (i' = i) && (jm_sw i || decide (l = jm_len i))
      | _ => false) && jf_pf mi i) = true
    rw [hd, h3, Bool.and_true]
    show (decide (i = i) && (jm_sw i || decide (e.1.length = jm_len i))) = true
    rw [h2, Bool.and_true]
    exact decide_eq_true rfl
  · exact h
theorem jf_wk_s {mi : Nat} : ∀ (c : List (Nat × Instr)) (pos : Nat), jf_wk mi c pos ((jm_b mi).data.toList.drop pos) = true → c.all (jm_xi mi) = true
  | [], _, _ => rfl
  | x :: r, pos, h => by
    obtain ⟨h1, h2⟩ := (Bool.and_eq_true _ _).mp h
    have hle : pos ≤ x.1 := Nat.le_of_ble_eq_true h1
    rw [List.drop_drop, show pos + (x.1 - pos) = x.1 by omega] at h2
    obtain ⟨h3, h4⟩ := (Bool.and_eq_true _ _).mp h2
    rw [List.all_cons, jf_wk_s r x.1 h4, Bool.and_true]
    exact jf_one_s h3
theorem jm_xw (mi : Nat) (h : jf_wk mi (jm_pg mi) 0 (jm_b mi).data.toList = true) : jm_xc mi = true := jf_wk_s (jm_pg mi) 0 h
theorem jm_okm0 : (List.range 16).all (fun i => jm_xm (0 + i)) = true := jm_all_xm (by decide +kernel)
theorem jm_okm1 : (List.range 16).all (fun i => jm_xm (16 + i)) = true := jm_all_xm (by decide +kernel)
theorem jm_okm2 : (List.range 16).all (fun i => jm_xm (32 + i)) = true := jm_all_xm (by decide +kernel)
theorem jm_okm3 : (List.range 16).all (fun i => jm_xm (48 + i)) = true := jm_all_xm (by decide +kernel)
theorem jm_okm4 : (List.range 16).all (fun i => jm_xm (64 + i)) = true := jm_all_xm (by decide +kernel)
theorem jm_okm5 : (List.range 16).all (fun i => jm_xm (80 + i)) = true := jm_all_xm (by decide +kernel)
theorem jm_okm6 : (List.range 16).all (fun i => jm_xm (96 + i)) = true := jm_all_xm (by decide +kernel)
theorem jm_okm7 : (List.range 16).all (fun i => jm_xm (112 + i)) = true := jm_all_xm (by decide +kernel)
theorem jm_okm8 : (List.range 16).all (fun i => jm_xm (128 + i)) = true := jm_all_xm (by decide +kernel)
theorem jm_okm9 : (List.range 16).all (fun i => jm_xm (144 + i)) = true := jm_all_xm (by decide +kernel)
theorem jm_okm10 : (List.range 16).all (fun i => jm_xm (160 + i)) = true := jm_all_xm (by decide +kernel)
theorem jm_okm11 : (List.range 16).all (fun i => jm_xm (176 + i)) = true := jm_all_xm (by decide +kernel)
theorem jm_okm12 : (List.range 16).all (fun i => jm_xm (192 + i)) = true := jm_all_xm (by decide +kernel)
theorem jm_okm13 : (List.range 16).all (fun i => jm_xm (208 + i)) = true := jm_all_xm (by decide +kernel)
theorem jm_okm14 : (List.range 16).all (fun i => jm_xm (224 + i)) = true := jm_all_xm (by decide +kernel)
theorem jm_okm15 : (List.range 16).all (fun i => jm_xm (240 + i)) = true := jm_all_xm (by decide +kernel)
theorem jm_okp0 : (List.range 16).all (fun i => jm_xp (0 + i)) = true := jm_all_xq (by decide +kernel)
theorem jm_okp1 : (List.range 16).all (fun i => jm_xp (16 + i)) = true := jm_all_xq (by decide +kernel)
theorem jm_okp2 : (List.range 16).all (fun i => jm_xp (32 + i)) = true := jm_all_xq (by decide +kernel)
theorem jm_okp3 : (List.range 16).all (fun i => jm_xp (48 + i)) = true := jm_all_xq (by decide +kernel)
theorem jm_okp4 : (List.range 16).all (fun i => jm_xp (64 + i)) = true := jm_all_xq (by decide +kernel)
theorem jm_okp5 : (List.range 16).all (fun i => jm_xp (80 + i)) = true := jm_all_xq (by decide +kernel)
theorem jm_okp6 : (List.range 16).all (fun i => jm_xp (96 + i)) = true := jm_all_xq (by decide +kernel)
theorem jm_okp7 : (List.range 16).all (fun i => jm_xp (112 + i)) = true := jm_all_xq (by decide +kernel)
theorem jm_okp8 : (List.range 16).all (fun i => jm_xp (128 + i)) = true := jm_all_xq (by decide +kernel)
theorem jm_okp9 : (List.range 16).all (fun i => jm_xp (144 + i)) = true := jm_all_xq (by decide +kernel)
theorem jm_okp10 : (List.range 16).all (fun i => jm_xp (160 + i)) = true := jm_all_xq (by decide +kernel)
theorem jm_okp11 : (List.range 16).all (fun i => jm_xp (176 + i)) = true := jm_all_xq (by decide +kernel)
theorem jm_okp12 : (List.range 16).all (fun i => jm_xp (192 + i)) = true := jm_all_xq (by decide +kernel)
theorem jm_okp13 : (List.range 16).all (fun i => jm_xp (208 + i)) = true := jm_all_xq (by decide +kernel)
theorem jm_okp14 : (List.range 16).all (fun i => jm_xp (224 + i)) = true := jm_all_xq (by decide +kernel)
theorem jm_okp15 : (List.range 15).all (fun i => jm_xp (240 + i)) = true := jm_all_xq (by decide +kernel)
theorem jm_okl0 : jm_xl 0 = true := jm_xl_q (by decide +kernel)
theorem jm_okl1 : jm_xl 1 = true := jm_xl_q (by decide +kernel)
theorem jm_okl2 : jm_xl 2 = true := jm_xl_q (by decide +kernel)
theorem jm_okl3 : jm_xl 3 = true := jm_xl_q (by decide +kernel)
theorem jm_okl4 : jm_xl 4 = true := jm_xl_q (by decide +kernel)
theorem jm_okl5 : jm_xl 5 = true := jm_xl_q (by decide +kernel)
theorem jm_okl6 : jm_xl 6 = true := jm_xl_q (by decide +kernel)
theorem jm_okl7 : jm_xl 7 = true := jm_xl_q (by decide +kernel)
theorem jm_okl8 : jm_xl 8 = true := jm_xl_q (by decide +kernel)
theorem jm_okl9 : jm_xl 9 = true := jm_xl_q (by decide +kernel)
theorem jm_okl10 : jm_xl 10 = true := jm_xl_q (by decide +kernel)
theorem jm_okl11 : jm_xl 11 = true := jm_xl_q (by decide +kernel)
theorem jm_okl12 : jm_xl 12 = true := jm_xl_q (by decide +kernel)
