/-! the tables are right: the instructions are the code's, the words of the links stand among the tables' -/
def jm_T (a : Nat) : u_T := (jm_cl0.getD a (RX0, TX0, 2)).2.1
def jm_N (a : Nat) : Nat := (jm_cl0.getD a (RX0, TX0, 2)).2.2
def jm_C (a : Nat) : String := (jm_cl0.getD a (RX0, TX0, 2)).1
def jm_wd (own : String) (idx : Nat) (e : Nat × Nat × Nat × Int) : List Jvm.Cond := match e.1 with
  | 0 => [.fieldLink own idx (jm_T e.2.1 e.2.2.1).1 (jm_T e.2.1 e.2.2.1).2.1 (jm_T e.2.1 e.2.2.1).2.2.1]
  | 1 => [.methodLink own idx (jm_y e.2.1), .static (jm_y e.2.1), .initialized (jm_y e.2.1).cls]
  | 2 => [.methodLink own idx (jm_y e.2.1), .instanceMethod (jm_y e.2.1), .selects (jm_y e.2.1).cls (jm_y e.2.1) (jm_y e.2.1), .initialized (jm_y e.2.1).cls]
  | 3 => [.methodLink own idx (jm_y e.2.1), .instanceMethod (jm_y e.2.1), .initialized (jm_y e.2.1).cls]
  | 4 => [.methodLinkNest own idx (jm_y e.2.1) "TaperedNumbers", .instanceMethod (jm_y e.2.1), .initialized (jm_y e.2.1).cls]
  | 5 => [.methodLink own idx Lib.objectInit]
  | 6 => [.classLink own idx (jm_C e.2.1), .instantiable (jm_C e.2.1) e.2.2.1, .initialized (jm_C e.2.1)]
  | 7 => [.classLink own idx (jm_C e.2.2.1), .arrayOver (.object (jm_C e.2.2.1))]
  | 8 => [.constant own idx (Int32.ofInt e.2.2.2)]
  | 9 => [.constantLong own idx (Int64.ofInt e.2.2.2)]
  | _ => []
def jm_xk (ci : Nat) (x : Nat × (Nat × Nat × Nat × Int) × List Nat) : Bool := decide (x.2.2.map (fun p => lw_tbl[p]?) = (jm_wd (jm_own.getD ci "") x.1 x.2.1).map some) && (match x.2.1.1 with
  | 0 => decide (x.2.1.2.1 < 13) && decide (x.2.1.2.2.1 < jm_N x.2.1.2.1)
  | 1 => decide (x.2.1.2.1 < 255)
  | 2 => decide (x.2.1.2.1 < 255)
  | 3 => decide (x.2.1.2.1 < 255) && decide ((jm_y x.2.1.2.1).name = "<init>") && decide (jm_ret x.2.1.2.1 = none)
  | 4 => decide (x.2.1.2.1 < 255) && decide ((jm_y x.2.1.2.1).name = "<init>") && decide (jm_ret x.2.1.2.1 = none)
  | 5 => true
  | 6 => decide (x.2.1.2.1 < 13) && decide (x.2.1.2.2.1 = jm_N x.2.1.2.1)
  | 7 => (decide (x.2.1.2.1 = 104) && decide (x.2.1.2.2.1 = 6)) || (decide (x.2.1.2.1 = 105) && decide (x.2.1.2.2.1 = 5))
  | 8 => true
  | 9 => true
  | _ => false)
def jm_xi (mi : Nat) (x : Nat × Instr) : Bool := (match decode (jm_b mi) x.1 with
    | .ok (i', l) => decide (i' = x.2) && (jm_sw x.2 || decide (l = jm_len x.2))
    | _ => false) && (match x.2 with
    | .putfield _ => !((jm_fin.getD (jm_rv mi x.2).2.1 []).getD (jm_rv mi x.2).2.2.1 false) || (decide ((jm_y mi).name = "<init>") && decide ((jm_y mi).cls = (jm_T (jm_rv mi x.2).2.1 (jm_rv mi x.2).2.2.1).1))
    | _ => true)
def jm_xc (mi : Nat) : Bool := (jm_pg mi).all (jm_xi mi)
def jm_xm (mi : Nat) : Bool := decide ((jm_y mi).cls = jm_own.getD (jm_ci mi) "") && decide ((jm_y mi).cls ≠ "java/lang/invoke/MethodHandle" ∧ (jm_y mi).cls ≠ "java/lang/invoke/VarHandle") && decide ((parseMethodDescriptor (jm_y mi).desc).map (fun d => d.parameters.length) = some (jm_np mi)) && plainFor (jm_y mi) && decide (jm_mx mi ≤ 22)
def jm_xp (mi : Nat) : Bool := decide (lw_tbl[jm_cp mi]? = some (.code (jm_y mi) (jm_b mi) (jm_mx mi) (jm_ret mi)))
def jm_xl (ci : Nat) : Bool := decide ((jm_lp.getD ci []).map (fun p => lw_tbl[p]?) = (u_ws (jm_C ci) (jm_T ci) (jm_N ci)).map some) && decide (jm_nf ci = jm_N ci) && decide (lw_tbl[jm_ip.getD ci 0]? = some (.instantiable (jm_C ci) (jm_N ci)))

def jm_xq (mi : Nat) : Bool := match lw_tbl[jm_cp mi]? with
  | some (.code y b m r) => decide (y = jm_y mi) && decide (b.data.toList = (jm_b mi).data.toList) && decide (m = jm_mx mi) && decide (r = jm_ret mi)
  | _ => false
theorem jm_xp_q {mi : Nat} (h : jm_xq mi = true) : jm_xp mi = true := by
  unfold jm_xq at h
  split at h
  · rename_i y b m r hq
    obtain ⟨h123, h4⟩ := (Bool.and_eq_true _ _).mp h
    obtain ⟨h12, h3⟩ := (Bool.and_eq_true _ _).mp h123
    obtain ⟨h1, h2⟩ := (Bool.and_eq_true _ _).mp h12
    have hb : b = jm_b mi := ByteArray.ext (Array.toList_inj.mp (of_decide_eq_true h2))
    unfold jm_xp
    exact decide_eq_true (by rw [hq, of_decide_eq_true h1, hb, of_decide_eq_true h3, of_decide_eq_true h4])
  · cases h
theorem jm_all_xq {a n : Nat} (h : (List.range n).all (fun i => jm_xq (a + i)) = true) : (List.range n).all (fun i => jm_xp (a + i)) = true := List.all_eq_true.mpr (fun i hi => jm_xp_q (List.all_eq_true.mp h i hi))
theorem jm_okm0 : (List.range 16).all (fun i => jm_xm (0 + i)) = true := by decide +kernel
theorem jm_okm1 : (List.range 16).all (fun i => jm_xm (16 + i)) = true := by decide +kernel
theorem jm_okm2 : (List.range 16).all (fun i => jm_xm (32 + i)) = true := by decide +kernel
theorem jm_okm3 : (List.range 16).all (fun i => jm_xm (48 + i)) = true := by decide +kernel
theorem jm_okm4 : (List.range 16).all (fun i => jm_xm (64 + i)) = true := by decide +kernel
theorem jm_okm5 : (List.range 16).all (fun i => jm_xm (80 + i)) = true := by decide +kernel
theorem jm_okm6 : (List.range 16).all (fun i => jm_xm (96 + i)) = true := by decide +kernel
theorem jm_okm7 : (List.range 16).all (fun i => jm_xm (112 + i)) = true := by decide +kernel
theorem jm_okm8 : (List.range 16).all (fun i => jm_xm (128 + i)) = true := by decide +kernel
theorem jm_okm9 : (List.range 16).all (fun i => jm_xm (144 + i)) = true := by decide +kernel
theorem jm_okm10 : (List.range 16).all (fun i => jm_xm (160 + i)) = true := by decide +kernel
theorem jm_okm11 : (List.range 16).all (fun i => jm_xm (176 + i)) = true := by decide +kernel
theorem jm_okm12 : (List.range 16).all (fun i => jm_xm (192 + i)) = true := by decide +kernel
theorem jm_okm13 : (List.range 16).all (fun i => jm_xm (208 + i)) = true := by decide +kernel
theorem jm_okm14 : (List.range 16).all (fun i => jm_xm (224 + i)) = true := by decide +kernel
theorem jm_okm15 : (List.range 16).all (fun i => jm_xm (240 + i)) = true := by decide +kernel
theorem jm_okp0 : (List.range 16).all (fun i => jm_xp (0 + i)) = true := jm_all_xq (by decide +kernel)
theorem jm_okp1 : (List.range 16).all (fun i => jm_xp (16 + i)) = true := jm_all_xq (by decide +kernel)
theorem jm_okp2 : (List.range 16).all (fun i => jm_xp (32 + i)) = true := jm_all_xq (by decide +kernel)
theorem jm_okp3 : (List.range 16).all (fun i => jm_xp (48 + i)) = true := jm_all_xq (by decide +kernel)
theorem jm_okp4 : (List.range 16).all (fun i => jm_xp (64 + i)) = true := jm_all_xq (by decide +kernel)
theorem jm_okp5 : (List.range 16).all (fun i => jm_xp (80 + i)) = true := jm_all_xq (by decide +kernel)
theorem jm_okp6 : (List.range 16).all (fun i => jm_xp (96 + i)) = true := jm_all_xq (by decide +kernel)
theorem jm_okp7 : (List.range 16).all (fun i => jm_xp (112 + i)) = true := jm_all_xq (by decide +kernel)
theorem jm_okp8 : (List.range 16).all (fun i => jm_xp (128 + i)) = true := jm_all_xq (by decide +kernel)
theorem jm_okp9 : (List.range 16).all (fun i => jm_xp (144 + i)) = true := jm_all_xq (by decide +kernel)
theorem jm_okp10 : (List.range 16).all (fun i => jm_xp (160 + i)) = true := jm_all_xq (by decide +kernel)
theorem jm_okp11 : (List.range 16).all (fun i => jm_xp (176 + i)) = true := jm_all_xq (by decide +kernel)
theorem jm_okp12 : (List.range 16).all (fun i => jm_xp (192 + i)) = true := jm_all_xq (by decide +kernel)
theorem jm_okp13 : (List.range 16).all (fun i => jm_xp (208 + i)) = true := jm_all_xq (by decide +kernel)
theorem jm_okp14 : (List.range 16).all (fun i => jm_xp (224 + i)) = true := jm_all_xq (by decide +kernel)
theorem jm_okp15 : (List.range 15).all (fun i => jm_xp (240 + i)) = true := jm_all_xq (by decide +kernel)
theorem jm_okl0 : jm_xl 0 = true := by decide +kernel
theorem jm_okl1 : jm_xl 1 = true := by decide +kernel
theorem jm_okl2 : jm_xl 2 = true := by decide +kernel
theorem jm_okl3 : jm_xl 3 = true := by decide +kernel
theorem jm_okl4 : jm_xl 4 = true := by decide +kernel
theorem jm_okl5 : jm_xl 5 = true := by decide +kernel
theorem jm_okl6 : jm_xl 6 = true := by decide +kernel
theorem jm_okl7 : jm_xl 7 = true := by decide +kernel
theorem jm_okl8 : jm_xl 8 = true := by decide +kernel
theorem jm_okl9 : jm_xl 9 = true := by decide +kernel
theorem jm_okl10 : jm_xl 10 = true := by decide +kernel
theorem jm_okl11 : jm_xl 11 = true := by decide +kernel
theorem jm_okl12 : jm_xl 12 = true := by decide +kernel
