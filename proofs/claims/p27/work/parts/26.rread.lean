theorem at37_0 : jm_at 37 0 = some (.aload_n 0) := by decide +kernel
theorem at37_1 : jm_at 37 1 = some (.getfield 18) := by decide +kernel
theorem rv37g_18 : jm_rv 37 (.getfield 18) = (0, 9, 2, 0) := by decide +kernel
theorem at37_4 : jm_at 37 4 = some (.aload_n 0) := by decide +kernel
theorem at37_5 : jm_at 37 5 = some (.getfield 9) := by decide +kernel
theorem rv37g_9 : jm_rv 37 (.getfield 9) = (0, 9, 0, 0) := by decide +kernel
theorem at37_8 : jm_at 37 8 = some (.arraylength) := by decide +kernel
theorem at37_9 : jm_at 37 9 = some (.if_icmp .ge 45) := by decide +kernel
theorem u37_0 {S : Option (Nat × (Nat → Int32))} {H : jm_H} {Q : Option Value → jm_H → Prop} {r0 : Nat} {x1 x2 : Int32} (h0 : jm_tg H r0 = 10) (h1 : ¬ jm_R H r0 0 = 0) (h2 : ¬ (jm_R H r0 0) = 1) (h3 : 100 ≤ jm_tg H (jm_R H r0 0)) : jm_w S 1 37 0 [.ref r0, .int x1, .int x2] [] H Q = if (Int32.ofNat (jm_ln H (jm_R H r0 0))) ≤ (jm_I H r0 2) then jm_w S 1 37 54 [.ref r0, .int x1, .int x2] [] H Q else jm_w S 1 37 12 [.ref r0, .int x1, .int x2] [] H Q := (js1 at37_0 rfl rfl rfl).trans ((jsgI (H := H) at37_1 rv37g_18 (Or.inl rfl) h0 rfl).trans ((js1 at37_4 rfl rfl rfl).trans ((jsgR (H := H) at37_5 rv37g_9 rfl h0 h1 rfl).trans ((jsaln (H := H) at37_8 h2 h3 rfl).trans (jsif (P := (Int32.ofNat (jm_ln H (jm_R H r0 0))) ≤ (jm_I H r0 2)) at37_9 rfl rfl)))))
theorem at37_12 : jm_at 37 12 = some (.aload_n 0) := by decide +kernel
theorem at37_13 : jm_at 37 13 = some (.getfield 18) := by decide +kernel
theorem at37_16 : jm_at 37 16 = some (.aload_n 0) := by decide +kernel
theorem at37_17 : jm_at 37 17 = some (.getfield 15) := by decide +kernel
theorem rv37g_15 : jm_rv 37 (.getfield 15) = (0, 9, 1, 0) := by decide +kernel
theorem at37_20 : jm_at 37 20 = some (.arraylength) := by decide +kernel
theorem at37_21 : jm_at 37 21 = some (.if_icmp .ge 33) := by decide +kernel
theorem u37_12 {S : Option (Nat × (Nat → Int32))} {H : jm_H} {Q : Option Value → jm_H → Prop} {r0 : Nat} {x1 x2 : Int32} (h0 : jm_tg H r0 = 10) (h1 : ¬ jm_R H r0 1 = 0) (h2 : ¬ (jm_R H r0 1) = 1) (h3 : 100 ≤ jm_tg H (jm_R H r0 1)) : jm_w S 1 37 12 [.ref r0, .int x1, .int x2] [] H Q = if (Int32.ofNat (jm_ln H (jm_R H r0 1))) ≤ (jm_I H r0 2) then jm_w S 1 37 54 [.ref r0, .int x1, .int x2] [] H Q else jm_w S 1 37 24 [.ref r0, .int x1, .int x2] [] H Q := (js1 at37_12 rfl rfl rfl).trans ((jsgI (H := H) at37_13 rv37g_18 (Or.inl rfl) h0 rfl).trans ((js1 at37_16 rfl rfl rfl).trans ((jsgR (H := H) at37_17 rv37g_15 rfl h0 h1 rfl).trans ((jsaln (H := H) at37_20 h2 h3 rfl).trans (jsif (P := (Int32.ofNat (jm_ln H (jm_R H r0 1))) ≤ (jm_I H r0 2)) at37_21 rfl rfl)))))
theorem at37_24 : jm_at 37 24 = some (.aload_n 0) := by decide +kernel
theorem at37_25 : jm_at 37 25 = some (.getfield 9) := by decide +kernel
theorem at37_28 : jm_at 37 28 = some (.aload_n 0) := by decide +kernel
theorem at37_29 : jm_at 37 29 = some (.getfield 18) := by decide +kernel
theorem at37_32 : jm_at 37 32 = some (.iload_n 1) := by decide +kernel
theorem at37_33 : jm_at 37 33 = some (.iastore) := by decide +kernel
theorem at37_34 : jm_at 37 34 = some (.aload_n 0) := by decide +kernel
theorem at37_35 : jm_at 37 35 = some (.getfield 15) := by decide +kernel
theorem at37_38 : jm_at 37 38 = some (.aload_n 0) := by decide +kernel
theorem at37_39 : jm_at 37 39 = some (.getfield 18) := by decide +kernel
theorem at37_42 : jm_at 37 42 = some (.iload_n 2) := by decide +kernel
theorem at37_43 : jm_at 37 43 = some (.iastore) := by decide +kernel
theorem at37_44 : jm_at 37 44 = some (.aload_n 0) := by decide +kernel
theorem at37_45 : jm_at 37 45 = some (.dup) := by decide +kernel
theorem at37_46 : jm_at 37 46 = some (.getfield 18) := by decide +kernel
theorem at37_49 : jm_at 37 49 = some (.iconst 1) := by decide +kernel
theorem at37_50 : jm_at 37 50 = some (.iadd) := by decide +kernel
theorem at37_51 : jm_at 37 51 = some (.putfield 18) := by decide +kernel
theorem rv37p_18 : jm_rv 37 (.putfield 18) = (0, 9, 2, 0) := by decide +kernel
theorem u37_24 {S : Option (Nat × (Nat → Int32))} {H : jm_H} {Q : Option Value → jm_H → Prop} {r0 : Nat} {x1 x2 : Int32} (h0 : jm_tg H r0 = 10) (h1 : ¬ jm_R H r0 0 = 0) (h2 : ¬ ((jm_I H r0 2) < 0 ∨ jm_ln H (jm_R H r0 0) ≤ Int32.toNatClampNeg (jm_I H r0 2))) (h3 : jm_tg H (jm_R H r0 0) = 100) (h4 : ¬ jm_R H r0 1 = 0) (h5 : ¬ ((jm_I (jm_pI H (jm_R H r0 0) (Int32.toNatClampNeg (jm_I H r0 2)) x1) r0 2) < 0 ∨ jm_ln H (jm_R H r0 1) ≤ Int32.toNatClampNeg (jm_I (jm_pI H (jm_R H r0 0) (Int32.toNatClampNeg (jm_I H r0 2)) x1) r0 2))) (h6 : jm_tg H (jm_R H r0 1) = 100) : jm_w S 1 37 24 [.ref r0, .int x1, .int x2] [] H Q = jm_w S 1 37 54 [.ref r0, .int x1, .int x2] [] (jm_pI (jm_pI (jm_pI H (jm_R H r0 0) (Int32.toNatClampNeg (jm_I H r0 2)) x1) (jm_R H r0 1) (Int32.toNatClampNeg (jm_I (jm_pI H (jm_R H r0 0) (Int32.toNatClampNeg (jm_I H r0 2)) x1) r0 2)) x2) r0 2 ((jm_I (jm_pI (jm_pI H (jm_R H r0 0) (Int32.toNatClampNeg (jm_I H r0 2)) x1) (jm_R H r0 1) (Int32.toNatClampNeg (jm_I (jm_pI H (jm_R H r0 0) (Int32.toNatClampNeg (jm_I H r0 2)) x1) r0 2)) x2) r0 2) + (1 : Int32))) Q := (js1 at37_24 rfl rfl rfl).trans ((jsgR (H := H) at37_25 rv37g_9 rfl h0 h1 rfl).trans ((js1 at37_28 rfl rfl rfl).trans ((jsgI (H := H) at37_29 rv37g_18 (Or.inl rfl) h0 rfl).trans ((js1 at37_32 rfl rfl rfl).trans ((jsias (H := H) at37_33 h3 h2 rfl).trans ((js1 at37_34 rfl rfl rfl).trans ((jsgR (H := (jm_pI H (jm_R H r0 0) (Int32.toNatClampNeg (jm_I H r0 2)) x1)) at37_35 rv37g_15 rfl h0 h4 rfl).trans ((js1 at37_38 rfl rfl rfl).trans ((jsgI (H := (jm_pI H (jm_R H r0 0) (Int32.toNatClampNeg (jm_I H r0 2)) x1)) at37_39 rv37g_18 (Or.inl rfl) h0 rfl).trans ((js1 at37_42 rfl rfl rfl).trans ((jsias (H := (jm_pI H (jm_R H r0 0) (Int32.toNatClampNeg (jm_I H r0 2)) x1)) at37_43 h6 h5 rfl).trans ((js1 at37_44 rfl rfl rfl).trans ((js0 at37_45 rfl rfl rfl).trans ((jsgI (H := (jm_pI (jm_pI H (jm_R H r0 0) (Int32.toNatClampNeg (jm_I H r0 2)) x1) (jm_R H r0 1) (Int32.toNatClampNeg (jm_I (jm_pI H (jm_R H r0 0) (Int32.toNatClampNeg (jm_I H r0 2)) x1) r0 2)) x2)) at37_46 rv37g_18 (Or.inl rfl) h0 rfl).trans ((jsci at37_49 rfl rfl).trans ((js0 at37_50 rfl rfl rfl).trans (jspI (H := (jm_pI (jm_pI H (jm_R H r0 0) (Int32.toNatClampNeg (jm_I H r0 2)) x1) (jm_R H r0 1) (Int32.toNatClampNeg (jm_I (jm_pI H (jm_R H r0 0) (Int32.toNatClampNeg (jm_I H r0 2)) x1) r0 2)) x2)) at37_51 rv37p_18 rfl h0 rfl)))))))))))))))))
theorem at37_54 : jm_at 37 54 = some (.return_) := by decide +kernel
theorem u37_54 {S : Option (Nat × (Nat → Int32))} {H : jm_H} {Q : Option Value → jm_H → Prop} {r0 : Nat} {x1 x2 : Int32} : jm_w S 1 37 54 [.ref r0, .int x1, .int x2] [] H Q = Q none H := jsret_v at37_54 rfl
theorem en37 {S : Option (Nat × (Nat → Int32))} {H : jm_H} {Q : Option Value → jm_H → Prop} {r0 : Nat} {x1 x2 : Int32} : jm_c S 37 [.ref r0, .int x1, .int x2] H Q = jm_w S 1 37 0 [.ref r0, .int x1, .int x2] [] H Q := rfl
theorem at43_0 : jm_at 43 0 = some (.aload_n 0) := by decide +kernel
theorem at43_1 : jm_at 43 1 = some (.iconst 0) := by decide +kernel
theorem at43_2 : jm_at 43 2 = some (.putfield 39) := by decide +kernel
theorem rv43p_39 : jm_rv 43 (.putfield 39) = (0, 10, 5, 0) := by decide +kernel
theorem at43_5 : jm_at 43 5 = some (.iconst 0) := by decide +kernel
theorem at43_6 : jm_at 43 6 = some (.istore 5) := by decide +kernel
theorem u43_0 {S : Option (Nat × (Nat → Int32))} {H : jm_H} {Q : Option Value → jm_H → Prop} {r0 r1 r4 : Nat} {x2 x3 : Int32} (h0 : jm_tg H r0 = 11) : jm_w S 7 43 0 [.ref r0, .ref r1, .int x2, .int x3, .ref r4, .null, .null, .null] [] H Q = jm_w S 7 43 8 [.ref r0, .ref r1, .int x2, .int x3, .ref r4, .int (0 : Int32), .null, .null] [] (jm_pI H r0 5 (0 : Int32)) Q := (js1 at43_0 rfl rfl rfl).trans ((jsci at43_1 rfl rfl).trans ((jspI (H := H) at43_2 rv43p_39 rfl h0 rfl).trans ((jsci at43_5 rfl rfl).trans (js1 at43_6 rfl rfl rfl))))
theorem at43_8 : jm_at 43 8 = some (.iload 5) := by decide +kernel
theorem at43_10 : jm_at 43 10 = some (.aload_n 1) := by decide +kernel
theorem at43_11 : jm_at 43 11 = some (.getfield 43) := by decide +kernel
theorem rv43g_43 : jm_rv 43 (.getfield 43) = (0, 9, 2, 0) := by decide +kernel
theorem at43_14 : jm_at 43 14 = some (.if_icmp .ge 234) := by decide +kernel
theorem u43_8 {S : Option (Nat × (Nat → Int32))} {H : jm_H} {Q : Option Value → jm_H → Prop} {r0 r1 r4 : Nat} {x2 x3 x5 : Int32} {w6 w7 : Value} (h0 : jm_tg H r1 = 10) : jm_w S 7 43 8 [.ref r0, .ref r1, .int x2, .int x3, .ref r4, .int x5, w6, w7] [] H Q = if (jm_I H r1 2) ≤ x5 then jm_w S 7 43 248 [.ref r0, .ref r1, .int x2, .int x3, .ref r4, .int x5, w6, w7] [] H Q else jm_w S 7 43 17 [.ref r0, .ref r1, .int x2, .int x3, .ref r4, .int x5, w6, w7] [] H Q := (js1 at43_8 rfl rfl rfl).trans ((js1 at43_10 rfl rfl rfl).trans ((jsgI (H := H) at43_11 rv43g_43 (Or.inl rfl) h0 rfl).trans (jsif (P := (jm_I H r1 2) ≤ x5) at43_14 rfl rfl)))
theorem at43_17 : jm_at 43 17 = some (.iload 5) := by decide +kernel
theorem at43_19 : jm_at 43 19 = some (.aload_n 1) := by decide +kernel
theorem at43_20 : jm_at 43 20 = some (.getfield 48) := by decide +kernel
theorem rv43g_48 : jm_rv 43 (.getfield 48) = (0, 9, 0, 0) := by decide +kernel
theorem at43_23 : jm_at 43 23 = some (.arraylength) := by decide +kernel
theorem at43_24 : jm_at 43 24 = some (.if_icmp .ge 224) := by decide +kernel
theorem u43_17 {S : Option (Nat × (Nat → Int32))} {H : jm_H} {Q : Option Value → jm_H → Prop} {r0 r1 r4 : Nat} {x2 x3 x5 : Int32} {w6 w7 : Value} (h0 : jm_tg H r1 = 10) (h1 : ¬ jm_R H r1 0 = 0) (h2 : ¬ (jm_R H r1 0) = 1) (h3 : 100 ≤ jm_tg H (jm_R H r1 0)) : jm_w S 7 43 17 [.ref r0, .ref r1, .int x2, .int x3, .ref r4, .int x5, w6, w7] [] H Q = if (Int32.ofNat (jm_ln H (jm_R H r1 0))) ≤ x5 then jm_w S 7 43 248 [.ref r0, .ref r1, .int x2, .int x3, .ref r4, .int x5, w6, w7] [] H Q else jm_w S 7 43 27 [.ref r0, .ref r1, .int x2, .int x3, .ref r4, .int x5, w6, w7] [] H Q := (js1 at43_17 rfl rfl rfl).trans ((js1 at43_19 rfl rfl rfl).trans ((jsgR (H := H) at43_20 rv43g_48 rfl h0 h1 rfl).trans ((jsaln (H := H) at43_23 h2 h3 rfl).trans (jsif (P := (Int32.ofNat (jm_ln H (jm_R H r1 0))) ≤ x5) at43_24 rfl rfl))))
theorem at43_27 : jm_at 43 27 = some (.iload 5) := by decide +kernel
theorem at43_29 : jm_at 43 29 = some (.aload_n 1) := by decide +kernel
theorem at43_30 : jm_at 43 30 = some (.getfield 51) := by decide +kernel
theorem rv43g_51 : jm_rv 43 (.getfield 51) = (0, 9, 1, 0) := by decide +kernel
theorem at43_33 : jm_at 43 33 = some (.arraylength) := by decide +kernel
theorem at43_34 : jm_at 43 34 = some (.if_icmp .ge 214) := by decide +kernel
theorem u43_27 {S : Option (Nat × (Nat → Int32))} {H : jm_H} {Q : Option Value → jm_H → Prop} {r0 r1 r4 : Nat} {x2 x3 x5 : Int32} {w6 w7 : Value} (h0 : jm_tg H r1 = 10) (h1 : ¬ jm_R H r1 1 = 0) (h2 : ¬ (jm_R H r1 1) = 1) (h3 : 100 ≤ jm_tg H (jm_R H r1 1)) : jm_w S 7 43 27 [.ref r0, .ref r1, .int x2, .int x3, .ref r4, .int x5, w6, w7] [] H Q = if (Int32.ofNat (jm_ln H (jm_R H r1 1))) ≤ x5 then jm_w S 7 43 248 [.ref r0, .ref r1, .int x2, .int x3, .ref r4, .int x5, w6, w7] [] H Q else jm_w S 7 43 37 [.ref r0, .ref r1, .int x2, .int x3, .ref r4, .int x5, w6, w7] [] H Q := (js1 at43_27 rfl rfl rfl).trans ((js1 at43_29 rfl rfl rfl).trans ((jsgR (H := H) at43_30 rv43g_51 rfl h0 h1 rfl).trans ((jsaln (H := H) at43_33 h2 h3 rfl).trans (jsif (P := (Int32.ofNat (jm_ln H (jm_R H r1 1))) ≤ x5) at43_34 rfl rfl))))
theorem at43_37 : jm_at 43 37 = some (.aload_n 1) := by decide +kernel
theorem at43_38 : jm_at 43 38 = some (.getfield 51) := by decide +kernel
theorem at43_41 : jm_at 43 41 = some (.iload 5) := by decide +kernel
theorem at43_43 : jm_at 43 43 = some (.iaload) := by decide +kernel
theorem at43_44 : jm_at 43 44 = some (.istore 6) := by decide +kernel
theorem at43_46 : jm_at 43 46 = some (.aload_n 1) := by decide +kernel
theorem at43_47 : jm_at 43 47 = some (.getfield 48) := by decide +kernel
theorem at43_50 : jm_at 43 50 = some (.iload 5) := by decide +kernel
theorem at43_52 : jm_at 43 52 = some (.iaload) := by decide +kernel
theorem u43_37 {S : Option (Nat × (Nat → Int32))} {H : jm_H} {Q : Option Value → jm_H → Prop} {r0 r1 r4 : Nat} {x2 x3 x5 : Int32} {w6 w7 : Value} (h0 : jm_tg H r1 = 10) (h1 : ¬ jm_R H r1 1 = 0) (h2 : ¬ (x5 < 0 ∨ jm_ln H (jm_R H r1 1) ≤ Int32.toNatClampNeg x5)) (h3 : ¬ (jm_R H r1 1) = 1) (h4 : jm_tg H (jm_R H r1 1) = 100) (h5 : ¬ jm_R H r1 0 = 0) (h6 : ¬ (x5 < 0 ∨ jm_ln H (jm_R H r1 0) ≤ Int32.toNatClampNeg x5)) (h7 : ¬ (jm_R H r1 0) = 1) (h8 : jm_tg H (jm_R H r1 0) = 100) : jm_w S 7 43 37 [.ref r0, .ref r1, .int x2, .int x3, .ref r4, .int x5, w6, w7] [] H Q = jm_w S 7 43 53 [.ref r0, .ref r1, .int x2, .int x3, .ref r4, .int x5, .int (jm_I H (jm_R H r1 1) (Int32.toNatClampNeg x5)), w7] [.int (jm_I H (jm_R H r1 0) (Int32.toNatClampNeg x5))] H Q := (js1 at43_37 rfl rfl rfl).trans ((jsgR (H := H) at43_38 rv43g_51 rfl h0 h1 rfl).trans ((js1 at43_41 rfl rfl rfl).trans ((jsial (H := H) at43_43 h3 h4 h2 rfl).trans ((js1 at43_44 rfl rfl rfl).trans ((js1 at43_46 rfl rfl rfl).trans ((jsgR (H := H) at43_47 rv43g_48 rfl h0 h5 rfl).trans ((js1 at43_50 rfl rfl rfl).trans (jsial (H := H) at43_52 h7 h8 h6 rfl))))))))
theorem at43_53 : jm_at 43 53 = some (.tableswitch 157 4 9 #[39, 57, 86, 101, 121, 132]) := by decide +kernel
theorem u43_53_4 {S : Option (Nat × (Nat → Int32))} {H : jm_H} {Q : Option Value → jm_H → Prop} {r0 r1 r4 : Nat} {x2 x3 x5 x6 : Int32} {w7 : Value} : jm_w S 7 43 53 [.ref r0, .ref r1, .int x2, .int x3, .ref r4, .int x5, .int x6, w7] [.int 4] H Q = jm_w S 7 43 92 [.ref r0, .ref r1, .int x2, .int x3, .ref r4, .int x5, .int x6, w7] [] H Q := js2 at43_53 rfl rfl
theorem u43_53_5 {S : Option (Nat × (Nat → Int32))} {H : jm_H} {Q : Option Value → jm_H → Prop} {r0 r1 r4 : Nat} {x2 x3 x5 x6 : Int32} {w7 : Value} : jm_w S 7 43 53 [.ref r0, .ref r1, .int x2, .int x3, .ref r4, .int x5, .int x6, w7] [.int 5] H Q = jm_w S 7 43 110 [.ref r0, .ref r1, .int x2, .int x3, .ref r4, .int x5, .int x6, w7] [] H Q := js2 at43_53 rfl rfl
theorem u43_53_6 {S : Option (Nat × (Nat → Int32))} {H : jm_H} {Q : Option Value → jm_H → Prop} {r0 r1 r4 : Nat} {x2 x3 x5 x6 : Int32} {w7 : Value} : jm_w S 7 43 53 [.ref r0, .ref r1, .int x2, .int x3, .ref r4, .int x5, .int x6, w7] [.int 6] H Q = jm_w S 7 43 139 [.ref r0, .ref r1, .int x2, .int x3, .ref r4, .int x5, .int x6, w7] [] H Q := js2 at43_53 rfl rfl
theorem u43_53_7 {S : Option (Nat × (Nat → Int32))} {H : jm_H} {Q : Option Value → jm_H → Prop} {r0 r1 r4 : Nat} {x2 x3 x5 x6 : Int32} {w7 : Value} : jm_w S 7 43 53 [.ref r0, .ref r1, .int x2, .int x3, .ref r4, .int x5, .int x6, w7] [.int 7] H Q = jm_w S 7 43 154 [.ref r0, .ref r1, .int x2, .int x3, .ref r4, .int x5, .int x6, w7] [] H Q := js2 at43_53 rfl rfl
theorem u43_53_8 {S : Option (Nat × (Nat → Int32))} {H : jm_H} {Q : Option Value → jm_H → Prop} {r0 r1 r4 : Nat} {x2 x3 x5 x6 : Int32} {w7 : Value} : jm_w S 7 43 53 [.ref r0, .ref r1, .int x2, .int x3, .ref r4, .int x5, .int x6, w7] [.int 8] H Q = jm_w S 7 43 174 [.ref r0, .ref r1, .int x2, .int x3, .ref r4, .int x5, .int x6, w7] [] H Q := js2 at43_53 rfl rfl
theorem u43_53_9 {S : Option (Nat × (Nat → Int32))} {H : jm_H} {Q : Option Value → jm_H → Prop} {r0 r1 r4 : Nat} {x2 x3 x5 x6 : Int32} {w7 : Value} : jm_w S 7 43 53 [.ref r0, .ref r1, .int x2, .int x3, .ref r4, .int x5, .int x6, w7] [.int 9] H Q = jm_w S 7 43 185 [.ref r0, .ref r1, .int x2, .int x3, .ref r4, .int x5, .int x6, w7] [] H Q := js2 at43_53 rfl rfl
theorem u43_53_d {S : Option (Nat × (Nat → Int32))} {H : jm_H} {Q : Option Value → jm_H → Prop} {r0 r1 r4 : Nat} {x2 x3 x5 x6 p0 : Int32} {w7 : Value} (h : Int32.toInt p0 < 4 ∨ 9 < Int32.toInt p0) : jm_w S 7 43 53 [.ref r0, .ref r1, .int x2, .int x3, .ref r4, .int x5, .int x6, w7] [.int p0] H Q = jm_w S 7 43 210 [.ref r0, .ref r1, .int x2, .int x3, .ref r4, .int x5, .int x6, w7] [] H Q := js2 at43_53 rfl ((if_pos h).trans rfl)
theorem at43_92 : jm_at 43 92 = some (.aload_n 0) := by decide +kernel
theorem at43_93 : jm_at 43 93 = some (.aload_n 0) := by decide +kernel
theorem at43_94 : jm_at 43 94 = some (.getfield 12) := by decide +kernel
theorem rv43g_12 : jm_rv 43 (.getfield 12) = (0, 10, 0, 0) := by decide +kernel
theorem at43_97 : jm_at 43 97 = some (.iload_n 2) := by decide +kernel
theorem at43_98 : jm_at 43 98 = some (.iload_n 3) := by decide +kernel
theorem at43_99 : jm_at 43 99 = some (.iload 6) := by decide +kernel
theorem at43_101 : jm_at 43 101 = some (.invokevirtual 54) := by decide +kernel
theorem rv43i_54 : jm_rv 43 (.invokevirtual 54) = (2, 44, 0, 0) := by decide +kernel
theorem u43_92 {S : Option (Nat × (Nat → Int32))} {H : jm_H} {Q : Option Value → jm_H → Prop} {r0 r1 r4 : Nat} {x2 x3 x5 x6 : Int32} {w7 : Value} (h0 : jm_tg H r0 = 11) (h1 : ¬ jm_R H r0 0 = 0) (h2 : jm_tg H (jm_R H r0 0) = 4) : jm_w S 7 43 92 [.ref r0, .ref r1, .int x2, .int x3, .ref r4, .int x5, .int x6, w7] [] H Q = jm_c S 44 [.ref (jm_R H r0 0), .int x2, .int x3, .int x6] H (fun v G => jm_w S 7 43 104 [.ref r0, .ref r1, .int x2, .int x3, .ref r4, .int x5, .int x6, w7] (v.toList ++ [.ref r0]) G Q) := (js1 at43_92 rfl rfl rfl).trans ((js1 at43_93 rfl rfl rfl).trans ((jsgR (H := H) at43_94 rv43g_12 rfl h0 h1 rfl).trans ((js1 at43_97 rfl rfl rfl).trans ((js1 at43_98 rfl rfl rfl).trans ((js1 at43_99 rfl rfl rfl).trans (jscall (H := H) (as := [.ref (jm_R H r0 0), .int x2, .int x3, .int x6]) (q := [.ref r0]) at43_101 rfl rv43i_54 (jscutV rfl rfl rfl (Nat.le_of_ble_eq_true rfl) rfl h2) rfl (Nat.le_of_ble_eq_true rfl) rfl rfl))))))
theorem at43_104 : jm_at 43 104 = some (.invokevirtual 58) := by decide +kernel
theorem rv43i_58 : jm_rv 43 (.invokevirtual 58) = (2, 65, 0, 0) := by decide +kernel
theorem u43_104 {S : Option (Nat × (Nat → Int32))} {H : jm_H} {Q : Option Value → jm_H → Prop} {r0 r1 r4 o0 : Nat} {x2 x3 x5 x6 p1 : Int32} {w7 : Value} (h0 : jm_tg H o0 = 11) : jm_w S 7 43 104 [.ref r0, .ref r1, .int x2, .int x3, .ref r4, .int x5, .int x6, w7] [.int p1, .ref o0] H Q = jm_c S 65 [.ref o0, .int p1] H (fun v G => jm_w S 7 43 107 [.ref r0, .ref r1, .int x2, .int x3, .ref r4, .int x5, .int x6, w7] (v.toList ++ []) G Q) := jscall (H := H) (as := [.ref o0, .int p1]) (q := []) at43_104 rfl rv43i_58 (jscutV rfl rfl rfl (Nat.le_of_ble_eq_true rfl) rfl h0) rfl (Nat.le_of_ble_eq_true rfl) rfl rfl
theorem at43_107 : jm_at 43 107 = some (.goto 135) := by decide +kernel
theorem u43_107 {S : Option (Nat × (Nat → Int32))} {H : jm_H} {Q : Option Value → jm_H → Prop} {r0 r1 r4 : Nat} {x2 x3 x5 x6 : Int32} {w7 : Value} : jm_w S 7 43 107 [.ref r0, .ref r1, .int x2, .int x3, .ref r4, .int x5, .int x6, w7] [] H Q = jm_w S 7 43 242 [.ref r0, .ref r1, .int x2, .int x3, .ref r4, .int x5, .int x6, w7] [] H Q := js2 at43_107 rfl rfl
theorem at43_110 : jm_at 43 110 = some (.aload_n 0) := by decide +kernel
theorem at43_111 : jm_at 43 111 = some (.iload 6) := by decide +kernel
theorem at43_113 : jm_at 43 113 = some (.ifCond .lt 19) := by decide +kernel
theorem u43_110 {S : Option (Nat × (Nat → Int32))} {H : jm_H} {Q : Option Value → jm_H → Prop} {r0 r1 r4 : Nat} {x2 x3 x5 x6 : Int32} {w7 : Value} : jm_w S 7 43 110 [.ref r0, .ref r1, .int x2, .int x3, .ref r4, .int x5, .int x6, w7] [] H Q = if x6 < 0 then jm_w S 7 43 132 [.ref r0, .ref r1, .int x2, .int x3, .ref r4, .int x5, .int x6, w7] [.ref r0] H Q else jm_w S 7 43 116 [.ref r0, .ref r1, .int x2, .int x3, .ref r4, .int x5, .int x6, w7] [.ref r0] H Q := (js1 at43_110 rfl rfl rfl).trans ((js1 at43_111 rfl rfl rfl).trans (jsif (P := x6 < 0) at43_113 rfl rfl))
theorem at43_116 : jm_at 43 116 = some (.iload 6) := by decide +kernel
theorem at43_118 : jm_at 43 118 = some (.aload 4) := by decide +kernel
theorem at43_120 : jm_at 43 120 = some (.arraylength) := by decide +kernel
theorem at43_121 : jm_at 43 121 = some (.if_icmp .ge 11) := by decide +kernel
theorem u43_116 {S : Option (Nat × (Nat → Int32))} {H : jm_H} {Q : Option Value → jm_H → Prop} {r0 r1 r4 o0 : Nat} {x2 x3 x5 x6 : Int32} {w7 : Value} (h0 : ¬ r4 = 1) (h1 : 100 ≤ jm_tg H r4) : jm_w S 7 43 116 [.ref r0, .ref r1, .int x2, .int x3, .ref r4, .int x5, .int x6, w7] [.ref o0] H Q = if (Int32.ofNat (jm_ln H r4)) ≤ x6 then jm_w S 7 43 132 [.ref r0, .ref r1, .int x2, .int x3, .ref r4, .int x5, .int x6, w7] [.ref o0] H Q else jm_w S 7 43 124 [.ref r0, .ref r1, .int x2, .int x3, .ref r4, .int x5, .int x6, w7] [.ref o0] H Q := (js1 at43_116 rfl rfl rfl).trans ((js1 at43_118 rfl rfl rfl).trans ((jsaln (H := H) at43_120 h0 h1 rfl).trans (jsif (P := (Int32.ofNat (jm_ln H r4)) ≤ x6) at43_121 rfl rfl)))
theorem at43_124 : jm_at 43 124 = some (.aload 4) := by decide +kernel
theorem at43_126 : jm_at 43 126 = some (.iload 6) := by decide +kernel
theorem at43_128 : jm_at 43 128 = some (.iaload) := by decide +kernel
theorem at43_129 : jm_at 43 129 = some (.goto 4) := by decide +kernel
theorem u43_124 {S : Option (Nat × (Nat → Int32))} {H : jm_H} {Q : Option Value → jm_H → Prop} {r0 r1 r4 o0 : Nat} {x2 x3 x5 x6 : Int32} {w7 : Value} (h0 : ¬ (x6 < 0 ∨ jm_ln H r4 ≤ Int32.toNatClampNeg x6)) (h1 : ¬ r4 = 1) (h2 : jm_tg H r4 = 100) : jm_w S 7 43 124 [.ref r0, .ref r1, .int x2, .int x3, .ref r4, .int x5, .int x6, w7] [.ref o0] H Q = jm_w S 7 43 133 [.ref r0, .ref r1, .int x2, .int x3, .ref r4, .int x5, .int x6, w7] [.int (jm_I H r4 (Int32.toNatClampNeg x6)), .ref o0] H Q := (js1 at43_124 rfl rfl rfl).trans ((js1 at43_126 rfl rfl rfl).trans ((jsial (H := H) at43_128 h1 h2 h0 rfl).trans (js2 at43_129 rfl rfl)))
theorem at43_132 : jm_at 43 132 = some (.iconst 0) := by decide +kernel
theorem u43_132 {S : Option (Nat × (Nat → Int32))} {H : jm_H} {Q : Option Value → jm_H → Prop} {r0 r1 r4 o0 : Nat} {x2 x3 x5 x6 : Int32} {w7 : Value} : jm_w S 7 43 132 [.ref r0, .ref r1, .int x2, .int x3, .ref r4, .int x5, .int x6, w7] [.ref o0] H Q = jm_w S 7 43 133 [.ref r0, .ref r1, .int x2, .int x3, .ref r4, .int x5, .int x6, w7] [.int (0 : Int32), .ref o0] H Q := jsci at43_132 rfl rfl
theorem at43_133 : jm_at 43 133 = some (.invokevirtual 58) := by decide +kernel
theorem u43_133 {S : Option (Nat × (Nat → Int32))} {H : jm_H} {Q : Option Value → jm_H → Prop} {r0 r1 r4 o0 : Nat} {x2 x3 x5 x6 p1 : Int32} {w7 : Value} (h0 : jm_tg H o0 = 11) : jm_w S 7 43 133 [.ref r0, .ref r1, .int x2, .int x3, .ref r4, .int x5, .int x6, w7] [.int p1, .ref o0] H Q = jm_c S 65 [.ref o0, .int p1] H (fun v G => jm_w S 7 43 136 [.ref r0, .ref r1, .int x2, .int x3, .ref r4, .int x5, .int x6, w7] (v.toList ++ []) G Q) := jscall (H := H) (as := [.ref o0, .int p1]) (q := []) at43_133 rfl rv43i_58 (jscutV rfl rfl rfl (Nat.le_of_ble_eq_true rfl) rfl h0) rfl (Nat.le_of_ble_eq_true rfl) rfl rfl
theorem at43_136 : jm_at 43 136 = some (.goto 106) := by decide +kernel
theorem u43_136 {S : Option (Nat × (Nat → Int32))} {H : jm_H} {Q : Option Value → jm_H → Prop} {r0 r1 r4 : Nat} {x2 x3 x5 x6 : Int32} {w7 : Value} : jm_w S 7 43 136 [.ref r0, .ref r1, .int x2, .int x3, .ref r4, .int x5, .int x6, w7] [] H Q = jm_w S 7 43 242 [.ref r0, .ref r1, .int x2, .int x3, .ref r4, .int x5, .int x6, w7] [] H Q := js2 at43_136 rfl rfl
theorem at43_139 : jm_at 43 139 = some (.aload_n 0) := by decide +kernel
theorem at43_140 : jm_at 43 140 = some (.iload_n 2) := by decide +kernel
theorem at43_141 : jm_at 43 141 = some (.aload_n 0) := by decide +kernel
theorem at43_142 : jm_at 43 142 = some (.invokevirtual 62) := by decide +kernel
theorem rv43i_62 : jm_rv 43 (.invokevirtual 62) = (2, 66, 0, 0) := by decide +kernel
theorem u43_139 {S : Option (Nat × (Nat → Int32))} {H : jm_H} {Q : Option Value → jm_H → Prop} {r0 r1 r4 : Nat} {x2 x3 x5 x6 : Int32} {w7 : Value} (h0 : jm_tg H r0 = 11) : jm_w S 7 43 139 [.ref r0, .ref r1, .int x2, .int x3, .ref r4, .int x5, .int x6, w7] [] H Q = jm_c S 66 [.ref r0] H (fun v G => jm_w S 7 43 145 [.ref r0, .ref r1, .int x2, .int x3, .ref r4, .int x5, .int x6, w7] (v.toList ++ [.int x2, .ref r0]) G Q) := (js1 at43_139 rfl rfl rfl).trans ((js1 at43_140 rfl rfl rfl).trans ((js1 at43_141 rfl rfl rfl).trans (jscall (H := H) (as := [.ref r0]) (q := [.int x2, .ref r0]) at43_142 rfl rv43i_62 (jscutV rfl rfl rfl (Nat.le_of_ble_eq_true rfl) rfl h0) rfl (Nat.le_of_ble_eq_true rfl) rfl rfl)))
theorem at43_145 : jm_at 43 145 = some (.invokestatic 66) := by decide +kernel
theorem rv43i_66 : jm_rv 43 (.invokestatic 66) = (1, 64, 0, 0) := by decide +kernel
theorem u43_145 {S : Option (Nat × (Nat → Int32))} {H : jm_H} {Q : Option Value → jm_H → Prop} {r0 r1 r4 o0 : Nat} {x2 x3 x5 x6 p1 p2 : Int32} {w7 : Value} : jm_w S 7 43 145 [.ref r0, .ref r1, .int x2, .int x3, .ref r4, .int x5, .int x6, w7] [.int p2, .int p1, .ref o0] H Q = jm_c S 64 [.int p1, .int p2] H (fun v G => jm_w S 7 43 148 [.ref r0, .ref r1, .int x2, .int x3, .ref r4, .int x5, .int x6, w7] (v.toList ++ [.ref o0]) G Q) := jscall (H := H) (as := [.int p1, .int p2]) (q := [.ref o0]) at43_145 rfl rv43i_66 (jscut rfl rfl rfl (Nat.le_of_ble_eq_true rfl)) rfl (Nat.le_of_ble_eq_true rfl) rfl rfl
theorem at43_148 : jm_at 43 148 = some (.invokevirtual 58) := by decide +kernel
theorem u43_148 {S : Option (Nat × (Nat → Int32))} {H : jm_H} {Q : Option Value → jm_H → Prop} {r0 r1 r4 o0 : Nat} {x2 x3 x5 x6 p1 : Int32} {w7 : Value} (h0 : jm_tg H o0 = 11) : jm_w S 7 43 148 [.ref r0, .ref r1, .int x2, .int x3, .ref r4, .int x5, .int x6, w7] [.int p1, .ref o0] H Q = jm_c S 65 [.ref o0, .int p1] H (fun v G => jm_w S 7 43 151 [.ref r0, .ref r1, .int x2, .int x3, .ref r4, .int x5, .int x6, w7] (v.toList ++ []) G Q) := jscall (H := H) (as := [.ref o0, .int p1]) (q := []) at43_148 rfl rv43i_58 (jscutV rfl rfl rfl (Nat.le_of_ble_eq_true rfl) rfl h0) rfl (Nat.le_of_ble_eq_true rfl) rfl rfl
theorem at43_151 : jm_at 43 151 = some (.goto 91) := by decide +kernel
theorem u43_151 {S : Option (Nat × (Nat → Int32))} {H : jm_H} {Q : Option Value → jm_H → Prop} {r0 r1 r4 : Nat} {x2 x3 x5 x6 : Int32} {w7 : Value} : jm_w S 7 43 151 [.ref r0, .ref r1, .int x2, .int x3, .ref r4, .int x5, .int x6, w7] [] H Q = jm_w S 7 43 242 [.ref r0, .ref r1, .int x2, .int x3, .ref r4, .int x5, .int x6, w7] [] H Q := js2 at43_151 rfl rfl
theorem at43_154 : jm_at 43 154 = some (.aload_n 0) := by decide +kernel
theorem at43_155 : jm_at 43 155 = some (.aload_n 0) := by decide +kernel
theorem at43_156 : jm_at 43 156 = some (.getfield 12) := by decide +kernel
theorem at43_159 : jm_at 43 159 = some (.iload_n 2) := by decide +kernel
theorem at43_160 : jm_at 43 160 = some (.iload_n 3) := by decide +kernel
theorem at43_161 : jm_at 43 161 = some (.aload_n 0) := by decide +kernel
theorem at43_162 : jm_at 43 162 = some (.invokevirtual 62) := by decide +kernel
theorem u43_154 {S : Option (Nat × (Nat → Int32))} {H : jm_H} {Q : Option Value → jm_H → Prop} {r0 r1 r4 : Nat} {x2 x3 x5 x6 : Int32} {w7 : Value} (h0 : jm_tg H r0 = 11) (h1 : ¬ jm_R H r0 0 = 0) : jm_w S 7 43 154 [.ref r0, .ref r1, .int x2, .int x3, .ref r4, .int x5, .int x6, w7] [] H Q = jm_c S 66 [.ref r0] H (fun v G => jm_w S 7 43 165 [.ref r0, .ref r1, .int x2, .int x3, .ref r4, .int x5, .int x6, w7] (v.toList ++ [.int x3, .int x2, .ref (jm_R H r0 0), .ref r0]) G Q) := (js1 at43_154 rfl rfl rfl).trans ((js1 at43_155 rfl rfl rfl).trans ((jsgR (H := H) at43_156 rv43g_12 rfl h0 h1 rfl).trans ((js1 at43_159 rfl rfl rfl).trans ((js1 at43_160 rfl rfl rfl).trans ((js1 at43_161 rfl rfl rfl).trans (jscall (H := H) (as := [.ref r0]) (q := [.int x3, .int x2, .ref (jm_R H r0 0), .ref r0]) at43_162 rfl rv43i_62 (jscutV rfl rfl rfl (Nat.le_of_ble_eq_true rfl) rfl h0) rfl (Nat.le_of_ble_eq_true rfl) rfl rfl))))))
theorem at43_165 : jm_at 43 165 = some (.invokevirtual 72) := by decide +kernel
theorem rv43i_72 : jm_rv 43 (.invokevirtual 72) = (2, 67, 0, 0) := by decide +kernel
theorem u43_165 {S : Option (Nat × (Nat → Int32))} {H : jm_H} {Q : Option Value → jm_H → Prop} {r0 r1 r4 o0 o1 : Nat} {x2 x3 x5 x6 p2 p3 p4 : Int32} {w7 : Value} (h0 : jm_tg H o1 = 4) : jm_w S 7 43 165 [.ref r0, .ref r1, .int x2, .int x3, .ref r4, .int x5, .int x6, w7] [.int p4, .int p3, .int p2, .ref o1, .ref o0] H Q = jm_c S 67 [.ref o1, .int p2, .int p3, .int p4] H (fun v G => jm_w S 7 43 168 [.ref r0, .ref r1, .int x2, .int x3, .ref r4, .int x5, .int x6, w7] (v.toList ++ [.ref o0]) G Q) := jscall (H := H) (as := [.ref o1, .int p2, .int p3, .int p4]) (q := [.ref o0]) at43_165 rfl rv43i_72 (jscutV rfl rfl rfl (Nat.le_of_ble_eq_true rfl) rfl h0) rfl (Nat.le_of_ble_eq_true rfl) rfl rfl
theorem at43_168 : jm_at 43 168 = some (.invokevirtual 58) := by decide +kernel
theorem u43_168 {S : Option (Nat × (Nat → Int32))} {H : jm_H} {Q : Option Value → jm_H → Prop} {r0 r1 r4 o0 : Nat} {x2 x3 x5 x6 p1 : Int32} {w7 : Value} (h0 : jm_tg H o0 = 11) : jm_w S 7 43 168 [.ref r0, .ref r1, .int x2, .int x3, .ref r4, .int x5, .int x6, w7] [.int p1, .ref o0] H Q = jm_c S 65 [.ref o0, .int p1] H (fun v G => jm_w S 7 43 171 [.ref r0, .ref r1, .int x2, .int x3, .ref r4, .int x5, .int x6, w7] (v.toList ++ []) G Q) := jscall (H := H) (as := [.ref o0, .int p1]) (q := []) at43_168 rfl rv43i_58 (jscutV rfl rfl rfl (Nat.le_of_ble_eq_true rfl) rfl h0) rfl (Nat.le_of_ble_eq_true rfl) rfl rfl
theorem at43_171 : jm_at 43 171 = some (.goto 71) := by decide +kernel
theorem u43_171 {S : Option (Nat × (Nat → Int32))} {H : jm_H} {Q : Option Value → jm_H → Prop} {r0 r1 r4 : Nat} {x2 x3 x5 x6 : Int32} {w7 : Value} : jm_w S 7 43 171 [.ref r0, .ref r1, .int x2, .int x3, .ref r4, .int x5, .int x6, w7] [] H Q = jm_w S 7 43 242 [.ref r0, .ref r1, .int x2, .int x3, .ref r4, .int x5, .int x6, w7] [] H Q := js2 at43_171 rfl rfl
theorem at43_174 : jm_at 43 174 = some (.aload_n 0) := by decide +kernel
theorem at43_175 : jm_at 43 175 = some (.iload_n 2) := by decide +kernel
theorem at43_176 : jm_at 43 176 = some (.iload_n 3) := by decide +kernel
theorem at43_177 : jm_at 43 177 = some (.iload 6) := by decide +kernel
theorem at43_179 : jm_at 43 179 = some (.invokevirtual 75) := by decide +kernel
theorem rv43i_75 : jm_rv 43 (.invokevirtual 75) = (2, 79, 0, 0) := by decide +kernel
theorem u43_174 {S : Option (Nat × (Nat → Int32))} {H : jm_H} {Q : Option Value → jm_H → Prop} {r0 r1 r4 : Nat} {x2 x3 x5 x6 : Int32} {w7 : Value} (h0 : jm_tg H r0 = 11) : jm_w S 7 43 174 [.ref r0, .ref r1, .int x2, .int x3, .ref r4, .int x5, .int x6, w7] [] H Q = jm_c S 79 [.ref r0, .int x2, .int x3, .int x6] H (fun v G => jm_w S 7 43 182 [.ref r0, .ref r1, .int x2, .int x3, .ref r4, .int x5, .int x6, w7] (v.toList ++ []) G Q) := (js1 at43_174 rfl rfl rfl).trans ((js1 at43_175 rfl rfl rfl).trans ((js1 at43_176 rfl rfl rfl).trans ((js1 at43_177 rfl rfl rfl).trans (jscall (H := H) (as := [.ref r0, .int x2, .int x3, .int x6]) (q := []) at43_179 rfl rv43i_75 (jscutV rfl rfl rfl (Nat.le_of_ble_eq_true rfl) rfl h0) rfl (Nat.le_of_ble_eq_true rfl) rfl rfl))))
theorem at43_182 : jm_at 43 182 = some (.goto 60) := by decide +kernel
theorem u43_182 {S : Option (Nat × (Nat → Int32))} {H : jm_H} {Q : Option Value → jm_H → Prop} {r0 r1 r4 : Nat} {x2 x3 x5 x6 : Int32} {w7 : Value} : jm_w S 7 43 182 [.ref r0, .ref r1, .int x2, .int x3, .ref r4, .int x5, .int x6, w7] [] H Q = jm_w S 7 43 242 [.ref r0, .ref r1, .int x2, .int x3, .ref r4, .int x5, .int x6, w7] [] H Q := js2 at43_182 rfl rfl
theorem at43_185 : jm_at 43 185 = some (.iload 6) := by decide +kernel
theorem at43_187 : jm_at 43 187 = some (.ifCond .lt 55) := by decide +kernel
theorem u43_185 {S : Option (Nat × (Nat → Int32))} {H : jm_H} {Q : Option Value → jm_H → Prop} {r0 r1 r4 : Nat} {x2 x3 x5 x6 : Int32} {w7 : Value} : jm_w S 7 43 185 [.ref r0, .ref r1, .int x2, .int x3, .ref r4, .int x5, .int x6, w7] [] H Q = if x6 < 0 then jm_w S 7 43 242 [.ref r0, .ref r1, .int x2, .int x3, .ref r4, .int x5, .int x6, w7] [] H Q else jm_w S 7 43 190 [.ref r0, .ref r1, .int x2, .int x3, .ref r4, .int x5, .int x6, w7] [] H Q := (js1 at43_185 rfl rfl rfl).trans (jsif (P := x6 < 0) at43_187 rfl rfl)
theorem at43_190 : jm_at 43 190 = some (.iload 6) := by decide +kernel
theorem at43_192 : jm_at 43 192 = some (.aload 4) := by decide +kernel
theorem at43_194 : jm_at 43 194 = some (.arraylength) := by decide +kernel
theorem at43_195 : jm_at 43 195 = some (.if_icmp .ge 47) := by decide +kernel
theorem u43_190 {S : Option (Nat × (Nat → Int32))} {H : jm_H} {Q : Option Value → jm_H → Prop} {r0 r1 r4 : Nat} {x2 x3 x5 x6 : Int32} {w7 : Value} (h0 : ¬ r4 = 1) (h1 : 100 ≤ jm_tg H r4) : jm_w S 7 43 190 [.ref r0, .ref r1, .int x2, .int x3, .ref r4, .int x5, .int x6, w7] [] H Q = if (Int32.ofNat (jm_ln H r4)) ≤ x6 then jm_w S 7 43 242 [.ref r0, .ref r1, .int x2, .int x3, .ref r4, .int x5, .int x6, w7] [] H Q else jm_w S 7 43 198 [.ref r0, .ref r1, .int x2, .int x3, .ref r4, .int x5, .int x6, w7] [] H Q := (js1 at43_190 rfl rfl rfl).trans ((js1 at43_192 rfl rfl rfl).trans ((jsaln (H := H) at43_194 h0 h1 rfl).trans (jsif (P := (Int32.ofNat (jm_ln H r4)) ≤ x6) at43_195 rfl rfl)))
theorem at43_198 : jm_at 43 198 = some (.aload 4) := by decide +kernel
theorem at43_200 : jm_at 43 200 = some (.iload 6) := by decide +kernel
theorem at43_202 : jm_at 43 202 = some (.aload_n 0) := by decide +kernel
theorem at43_203 : jm_at 43 203 = some (.invokevirtual 62) := by decide +kernel
theorem u43_198 {S : Option (Nat × (Nat → Int32))} {H : jm_H} {Q : Option Value → jm_H → Prop} {r0 r1 r4 : Nat} {x2 x3 x5 x6 : Int32} {w7 : Value} (h0 : jm_tg H r0 = 11) : jm_w S 7 43 198 [.ref r0, .ref r1, .int x2, .int x3, .ref r4, .int x5, .int x6, w7] [] H Q = jm_c S 66 [.ref r0] H (fun v G => jm_w S 7 43 206 [.ref r0, .ref r1, .int x2, .int x3, .ref r4, .int x5, .int x6, w7] (v.toList ++ [.int x6, .ref r4]) G Q) := (js1 at43_198 rfl rfl rfl).trans ((js1 at43_200 rfl rfl rfl).trans ((js1 at43_202 rfl rfl rfl).trans (jscall (H := H) (as := [.ref r0]) (q := [.int x6, .ref r4]) at43_203 rfl rv43i_62 (jscutV rfl rfl rfl (Nat.le_of_ble_eq_true rfl) rfl h0) rfl (Nat.le_of_ble_eq_true rfl) rfl rfl)))
theorem at43_206 : jm_at 43 206 = some (.iastore) := by decide +kernel
theorem at43_207 : jm_at 43 207 = some (.goto 35) := by decide +kernel
theorem u43_206 {S : Option (Nat × (Nat → Int32))} {H : jm_H} {Q : Option Value → jm_H → Prop} {r0 r1 r4 o0 : Nat} {x2 x3 x5 x6 p1 p2 : Int32} {w7 : Value} (h0 : ¬ (p1 < 0 ∨ jm_ln H o0 ≤ Int32.toNatClampNeg p1)) (h1 : jm_tg H o0 = 100) : jm_w S 7 43 206 [.ref r0, .ref r1, .int x2, .int x3, .ref r4, .int x5, .int x6, w7] [.int p2, .int p1, .ref o0] H Q = jm_w S 7 43 242 [.ref r0, .ref r1, .int x2, .int x3, .ref r4, .int x5, .int x6, w7] [] (jm_pI H o0 (Int32.toNatClampNeg p1) p2) Q := (jsias (H := H) at43_206 h1 h0 rfl).trans (js2 at43_207 rfl rfl)
theorem at43_210 : jm_at 43 210 = some (.aload_n 0) := by decide +kernel
theorem at43_211 : jm_at 43 211 = some (.invokevirtual 62) := by decide +kernel
theorem u43_210 {S : Option (Nat × (Nat → Int32))} {H : jm_H} {Q : Option Value → jm_H → Prop} {r0 r1 r4 : Nat} {x2 x3 x5 x6 : Int32} {w7 : Value} (h0 : jm_tg H r0 = 11) : jm_w S 7 43 210 [.ref r0, .ref r1, .int x2, .int x3, .ref r4, .int x5, .int x6, w7] [] H Q = jm_c S 66 [.ref r0] H (fun v G => jm_w S 7 43 214 [.ref r0, .ref r1, .int x2, .int x3, .ref r4, .int x5, .int x6, w7] (v.toList ++ []) G Q) := (js1 at43_210 rfl rfl rfl).trans (jscall (H := H) (as := [.ref r0]) (q := []) at43_211 rfl rv43i_62 (jscutV rfl rfl rfl (Nat.le_of_ble_eq_true rfl) rfl h0) rfl (Nat.le_of_ble_eq_true rfl) rfl rfl)
theorem at43_214 : jm_at 43 214 = some (.istore 7) := by decide +kernel
theorem at43_216 : jm_at 43 216 = some (.aload_n 0) := by decide +kernel
theorem at43_217 : jm_at 43 217 = some (.aload_n 0) := by decide +kernel
theorem at43_218 : jm_at 43 218 = some (.getfield 12) := by decide +kernel
theorem at43_221 : jm_at 43 221 = some (.iload_n 2) := by decide +kernel
theorem at43_222 : jm_at 43 222 = some (.iload_n 3) := by decide +kernel
theorem at43_223 : jm_at 43 223 = some (.aload_n 0) := by decide +kernel
theorem at43_224 : jm_at 43 224 = some (.invokevirtual 62) := by decide +kernel
theorem u43_214 {S : Option (Nat × (Nat → Int32))} {H : jm_H} {Q : Option Value → jm_H → Prop} {r0 r1 r4 : Nat} {x2 x3 x5 x6 p0 : Int32} {w7 : Value} (h0 : jm_tg H r0 = 11) (h1 : ¬ jm_R H r0 0 = 0) : jm_w S 7 43 214 [.ref r0, .ref r1, .int x2, .int x3, .ref r4, .int x5, .int x6, w7] [.int p0] H Q = jm_c S 66 [.ref r0] H (fun v G => jm_w S 7 43 227 [.ref r0, .ref r1, .int x2, .int x3, .ref r4, .int x5, .int x6, .int p0] (v.toList ++ [.int x3, .int x2, .ref (jm_R H r0 0), .ref r0]) G Q) := (js1 at43_214 rfl rfl rfl).trans ((js1 at43_216 rfl rfl rfl).trans ((js1 at43_217 rfl rfl rfl).trans ((jsgR (H := H) at43_218 rv43g_12 rfl h0 h1 rfl).trans ((js1 at43_221 rfl rfl rfl).trans ((js1 at43_222 rfl rfl rfl).trans ((js1 at43_223 rfl rfl rfl).trans (jscall (H := H) (as := [.ref r0]) (q := [.int x3, .int x2, .ref (jm_R H r0 0), .ref r0]) at43_224 rfl rv43i_62 (jscutV rfl rfl rfl (Nat.le_of_ble_eq_true rfl) rfl h0) rfl (Nat.le_of_ble_eq_true rfl) rfl rfl)))))))
theorem at43_227 : jm_at 43 227 = some (.iload 7) := by decide +kernel
theorem at43_229 : jm_at 43 229 = some (.aload_n 1) := by decide +kernel
theorem at43_230 : jm_at 43 230 = some (.getfield 48) := by decide +kernel
theorem at43_233 : jm_at 43 233 = some (.iload 5) := by decide +kernel
theorem at43_235 : jm_at 43 235 = some (.iaload) := by decide +kernel
theorem at43_236 : jm_at 43 236 = some (.invokevirtual 79) := by decide +kernel
theorem rv43i_79 : jm_rv 43 (.invokevirtual 79) = (2, 87, 0, 0) := by decide +kernel
theorem u43_227 {S : Option (Nat × (Nat → Int32))} {H : jm_H} {Q : Option Value → jm_H → Prop} {r0 r1 r4 o0 o1 : Nat} {x2 x3 x5 x6 x7 p2 p3 p4 : Int32} (h0 : jm_tg H r1 = 10) (h1 : ¬ jm_R H r1 0 = 0) (h2 : ¬ (x5 < 0 ∨ jm_ln H (jm_R H r1 0) ≤ Int32.toNatClampNeg x5)) (h3 : ¬ (jm_R H r1 0) = 1) (h4 : jm_tg H (jm_R H r1 0) = 100) (h5 : jm_tg H o1 = 4) : jm_w S 7 43 227 [.ref r0, .ref r1, .int x2, .int x3, .ref r4, .int x5, .int x6, .int x7] [.int p4, .int p3, .int p2, .ref o1, .ref o0] H Q = jm_c S 87 [.ref o1, .int p2, .int p3, .int p4, .int x7, .int (jm_I H (jm_R H r1 0) (Int32.toNatClampNeg x5))] H (fun v G => jm_w S 7 43 239 [.ref r0, .ref r1, .int x2, .int x3, .ref r4, .int x5, .int x6, .int x7] (v.toList ++ [.ref o0]) G Q) := (js1 at43_227 rfl rfl rfl).trans ((js1 at43_229 rfl rfl rfl).trans ((jsgR (H := H) at43_230 rv43g_48 rfl h0 h1 rfl).trans ((js1 at43_233 rfl rfl rfl).trans ((jsial (H := H) at43_235 h3 h4 h2 rfl).trans (jscall (H := H) (as := [.ref o1, .int p2, .int p3, .int p4, .int x7, .int (jm_I H (jm_R H r1 0) (Int32.toNatClampNeg x5))]) (q := [.ref o0]) at43_236 rfl rv43i_79 (jscutV rfl rfl rfl (Nat.le_of_ble_eq_true rfl) rfl h5) rfl (Nat.le_of_ble_eq_true rfl) rfl rfl)))))
theorem at43_239 : jm_at 43 239 = some (.invokevirtual 58) := by decide +kernel
theorem u43_239 {S : Option (Nat × (Nat → Int32))} {H : jm_H} {Q : Option Value → jm_H → Prop} {r0 r1 r4 o0 : Nat} {x2 x3 x5 x6 x7 p1 : Int32} (h0 : jm_tg H o0 = 11) : jm_w S 7 43 239 [.ref r0, .ref r1, .int x2, .int x3, .ref r4, .int x5, .int x6, .int x7] [.int p1, .ref o0] H Q = jm_c S 65 [.ref o0, .int p1] H (fun v G => jm_w S 7 43 242 [.ref r0, .ref r1, .int x2, .int x3, .ref r4, .int x5, .int x6, .int x7] (v.toList ++ []) G Q) := jscall (H := H) (as := [.ref o0, .int p1]) (q := []) at43_239 rfl rv43i_58 (jscutV rfl rfl rfl (Nat.le_of_ble_eq_true rfl) rfl h0) rfl (Nat.le_of_ble_eq_true rfl) rfl rfl
theorem at43_242 : jm_at 43 242 = some (.iinc 5 1) := by decide +kernel
theorem at43_245 : jm_at 43 245 = some (.goto (-237)) := by decide +kernel
theorem u43_242 {S : Option (Nat × (Nat → Int32))} {H : jm_H} {Q : Option Value → jm_H → Prop} {r0 r1 r4 : Nat} {x2 x3 x5 x6 : Int32} {w7 : Value} : jm_w S 7 43 242 [.ref r0, .ref r1, .int x2, .int x3, .ref r4, .int x5, .int x6, w7] [] H Q = jm_w S 7 43 8 [.ref r0, .ref r1, .int x2, .int x3, .ref r4, .int (x5 + 1), .int x6, w7] [] H Q := (jsinc at43_242 rfl rfl rfl).trans (js2 at43_245 rfl rfl)
theorem at43_248 : jm_at 43 248 = some (.return_) := by decide +kernel
theorem u43_248 {S : Option (Nat × (Nat → Int32))} {H : jm_H} {Q : Option Value → jm_H → Prop} {r0 r1 r4 : Nat} {x2 x3 x5 : Int32} {w6 w7 : Value} : jm_w S 7 43 248 [.ref r0, .ref r1, .int x2, .int x3, .ref r4, .int x5, w6, w7] [] H Q = Q none H := jsret_v at43_248 rfl
theorem en43 {S : Option (Nat × (Nat → Int32))} {H : jm_H} {Q : Option Value → jm_H → Prop} {r0 r1 r4 : Nat} {x2 x3 : Int32} : jm_c S 43 [.ref r0, .ref r1, .int x2, .int x3, .ref r4] H Q = jm_w S 7 43 0 [.ref r0, .ref r1, .int x2, .int x3, .ref r4, .null, .null, .null] [] H Q := rfl
theorem at65_0 : jm_at 65 0 = some (.aload_n 0) := by decide +kernel
theorem at65_1 : jm_at 65 1 = some (.getfield 39) := by decide +kernel
theorem rv65g_39 : jm_rv 65 (.getfield 39) = (0, 10, 5, 0) := by decide +kernel
theorem at65_4 : jm_at 65 4 = some (.ifCond .lt 35) := by decide +kernel
theorem u65_0 {S : Option (Nat × (Nat → Int32))} {H : jm_H} {Q : Option Value → jm_H → Prop} {r0 : Nat} {x1 : Int32} (h0 : jm_tg H r0 = 11) : jm_w S 1 65 0 [.ref r0, .int x1] [] H Q = if (jm_I H r0 5) < 0 then jm_w S 1 65 39 [.ref r0, .int x1] [] H Q else jm_w S 1 65 7 [.ref r0, .int x1] [] H Q := (js1 at65_0 rfl rfl rfl).trans ((jsgI (H := H) at65_1 rv65g_39 (Or.inl rfl) h0 rfl).trans (jsif (P := (jm_I H r0 5) < 0) at65_4 rfl rfl))
theorem at65_7 : jm_at 65 7 = some (.aload_n 0) := by decide +kernel
theorem at65_8 : jm_at 65 8 = some (.getfield 39) := by decide +kernel
theorem at65_11 : jm_at 65 11 = some (.aload_n 0) := by decide +kernel
theorem at65_12 : jm_at 65 12 = some (.getfield 35) := by decide +kernel
theorem rv65g_35 : jm_rv 65 (.getfield 35) = (0, 10, 4, 0) := by decide +kernel
theorem at65_15 : jm_at 65 15 = some (.arraylength) := by decide +kernel
theorem at65_16 : jm_at 65 16 = some (.if_icmp .ge 23) := by decide +kernel
theorem u65_7 {S : Option (Nat × (Nat → Int32))} {H : jm_H} {Q : Option Value → jm_H → Prop} {r0 : Nat} {x1 : Int32} (h0 : jm_tg H r0 = 11) (h1 : ¬ jm_R H r0 4 = 0) (h2 : ¬ (jm_R H r0 4) = 1) (h3 : 100 ≤ jm_tg H (jm_R H r0 4)) : jm_w S 1 65 7 [.ref r0, .int x1] [] H Q = if (Int32.ofNat (jm_ln H (jm_R H r0 4))) ≤ (jm_I H r0 5) then jm_w S 1 65 39 [.ref r0, .int x1] [] H Q else jm_w S 1 65 19 [.ref r0, .int x1] [] H Q := (js1 at65_7 rfl rfl rfl).trans ((jsgI (H := H) at65_8 rv65g_39 (Or.inl rfl) h0 rfl).trans ((js1 at65_11 rfl rfl rfl).trans ((jsgR (H := H) at65_12 rv65g_35 rfl h0 h1 rfl).trans ((jsaln (H := H) at65_15 h2 h3 rfl).trans (jsif (P := (Int32.ofNat (jm_ln H (jm_R H r0 4))) ≤ (jm_I H r0 5)) at65_16 rfl rfl)))))
theorem at65_19 : jm_at 65 19 = some (.aload_n 0) := by decide +kernel
theorem at65_20 : jm_at 65 20 = some (.getfield 35) := by decide +kernel
theorem at65_23 : jm_at 65 23 = some (.aload_n 0) := by decide +kernel
theorem at65_24 : jm_at 65 24 = some (.getfield 39) := by decide +kernel
theorem at65_27 : jm_at 65 27 = some (.iload_n 1) := by decide +kernel
theorem at65_28 : jm_at 65 28 = some (.iastore) := by decide +kernel
theorem at65_29 : jm_at 65 29 = some (.aload_n 0) := by decide +kernel
theorem at65_30 : jm_at 65 30 = some (.dup) := by decide +kernel
theorem at65_31 : jm_at 65 31 = some (.getfield 39) := by decide +kernel
theorem at65_34 : jm_at 65 34 = some (.iconst 1) := by decide +kernel
theorem at65_35 : jm_at 65 35 = some (.iadd) := by decide +kernel
theorem at65_36 : jm_at 65 36 = some (.putfield 39) := by decide +kernel
theorem rv65p_39 : jm_rv 65 (.putfield 39) = (0, 10, 5, 0) := by decide +kernel
theorem u65_19 {S : Option (Nat × (Nat → Int32))} {H : jm_H} {Q : Option Value → jm_H → Prop} {r0 : Nat} {x1 : Int32} (h0 : jm_tg H r0 = 11) (h1 : ¬ jm_R H r0 4 = 0) (h2 : ¬ ((jm_I H r0 5) < 0 ∨ jm_ln H (jm_R H r0 4) ≤ Int32.toNatClampNeg (jm_I H r0 5))) (h3 : jm_tg H (jm_R H r0 4) = 100) : jm_w S 1 65 19 [.ref r0, .int x1] [] H Q = jm_w S 1 65 39 [.ref r0, .int x1] [] (jm_pI (jm_pI H (jm_R H r0 4) (Int32.toNatClampNeg (jm_I H r0 5)) x1) r0 5 ((jm_I (jm_pI H (jm_R H r0 4) (Int32.toNatClampNeg (jm_I H r0 5)) x1) r0 5) + (1 : Int32))) Q := (js1 at65_19 rfl rfl rfl).trans ((jsgR (H := H) at65_20 rv65g_35 rfl h0 h1 rfl).trans ((js1 at65_23 rfl rfl rfl).trans ((jsgI (H := H) at65_24 rv65g_39 (Or.inl rfl) h0 rfl).trans ((js1 at65_27 rfl rfl rfl).trans ((jsias (H := H) at65_28 h3 h2 rfl).trans ((js1 at65_29 rfl rfl rfl).trans ((js0 at65_30 rfl rfl rfl).trans ((jsgI (H := (jm_pI H (jm_R H r0 4) (Int32.toNatClampNeg (jm_I H r0 5)) x1)) at65_31 rv65g_39 (Or.inl rfl) h0 rfl).trans ((jsci at65_34 rfl rfl).trans ((js0 at65_35 rfl rfl rfl).trans (jspI (H := (jm_pI H (jm_R H r0 4) (Int32.toNatClampNeg (jm_I H r0 5)) x1)) at65_36 rv65p_39 rfl h0 rfl)))))))))))
theorem at65_39 : jm_at 65 39 = some (.return_) := by decide +kernel
theorem u65_39 {S : Option (Nat × (Nat → Int32))} {H : jm_H} {Q : Option Value → jm_H → Prop} {r0 : Nat} {x1 : Int32} : jm_w S 1 65 39 [.ref r0, .int x1] [] H Q = Q none H := jsret_v at65_39 rfl
theorem en65 {S : Option (Nat × (Nat → Int32))} {H : jm_H} {Q : Option Value → jm_H → Prop} {r0 : Nat} {x1 : Int32} : jm_c S 65 [.ref r0, .int x1] H Q = jm_w S 1 65 0 [.ref r0, .int x1] [] H Q := rfl
theorem at66_0 : jm_at 66 0 = some (.aload_n 0) := by decide +kernel
theorem at66_1 : jm_at 66 1 = some (.getfield 39) := by decide +kernel
theorem rv66g_39 : jm_rv 66 (.getfield 39) = (0, 10, 5, 0) := by decide +kernel
theorem at66_4 : jm_at 66 4 = some (.ifCond .le 15) := by decide +kernel
theorem u66_0 {S : Option (Nat × (Nat → Int32))} {H : jm_H} {Q : Option Value → jm_H → Prop} {r0 : Nat} (h0 : jm_tg H r0 = 11) : jm_w S 1 66 0 [.ref r0] [] H Q = if (jm_I H r0 5) ≤ 0 then jm_w S 1 66 19 [.ref r0] [] H Q else jm_w S 1 66 7 [.ref r0] [] H Q := (js1 at66_0 rfl rfl rfl).trans ((jsgI (H := H) at66_1 rv66g_39 (Or.inl rfl) h0 rfl).trans (jsif (P := (jm_I H r0 5) ≤ 0) at66_4 rfl rfl))
theorem at66_7 : jm_at 66 7 = some (.aload_n 0) := by decide +kernel
theorem at66_8 : jm_at 66 8 = some (.getfield 39) := by decide +kernel
theorem at66_11 : jm_at 66 11 = some (.aload_n 0) := by decide +kernel
theorem at66_12 : jm_at 66 12 = some (.getfield 35) := by decide +kernel
theorem rv66g_35 : jm_rv 66 (.getfield 35) = (0, 10, 4, 0) := by decide +kernel
theorem at66_15 : jm_at 66 15 = some (.arraylength) := by decide +kernel
theorem at66_16 : jm_at 66 16 = some (.if_icmp .le 5) := by decide +kernel
theorem u66_7 {S : Option (Nat × (Nat → Int32))} {H : jm_H} {Q : Option Value → jm_H → Prop} {r0 : Nat} (h0 : jm_tg H r0 = 11) (h1 : ¬ jm_R H r0 4 = 0) (h2 : ¬ (jm_R H r0 4) = 1) (h3 : 100 ≤ jm_tg H (jm_R H r0 4)) : jm_w S 1 66 7 [.ref r0] [] H Q = if (jm_I H r0 5) ≤ (Int32.ofNat (jm_ln H (jm_R H r0 4))) then jm_w S 1 66 21 [.ref r0] [] H Q else jm_w S 1 66 19 [.ref r0] [] H Q := (js1 at66_7 rfl rfl rfl).trans ((jsgI (H := H) at66_8 rv66g_39 (Or.inl rfl) h0 rfl).trans ((js1 at66_11 rfl rfl rfl).trans ((jsgR (H := H) at66_12 rv66g_35 rfl h0 h1 rfl).trans ((jsaln (H := H) at66_15 h2 h3 rfl).trans (jsif (P := (jm_I H r0 5) ≤ (Int32.ofNat (jm_ln H (jm_R H r0 4)))) at66_16 rfl rfl)))))
theorem at66_19 : jm_at 66 19 = some (.iconst 0) := by decide +kernel
theorem at66_20 : jm_at 66 20 = some (.ireturn) := by decide +kernel
theorem u66_19 {S : Option (Nat × (Nat → Int32))} {H : jm_H} {Q : Option Value → jm_H → Prop} {r0 : Nat} : jm_w S 1 66 19 [.ref r0] [] H Q = Q (some (.int (0 : Int32))) H := (jsci at66_19 rfl rfl).trans (jsret_i at66_20 rfl)
theorem at66_21 : jm_at 66 21 = some (.aload_n 0) := by decide +kernel
theorem at66_22 : jm_at 66 22 = some (.dup) := by decide +kernel
theorem at66_23 : jm_at 66 23 = some (.getfield 39) := by decide +kernel
theorem at66_26 : jm_at 66 26 = some (.iconst 1) := by decide +kernel
theorem at66_27 : jm_at 66 27 = some (.isub) := by decide +kernel
theorem at66_28 : jm_at 66 28 = some (.putfield 39) := by decide +kernel
theorem rv66p_39 : jm_rv 66 (.putfield 39) = (0, 10, 5, 0) := by decide +kernel
theorem at66_31 : jm_at 66 31 = some (.aload_n 0) := by decide +kernel
theorem at66_32 : jm_at 66 32 = some (.getfield 35) := by decide +kernel
theorem at66_35 : jm_at 66 35 = some (.aload_n 0) := by decide +kernel
theorem at66_36 : jm_at 66 36 = some (.getfield 39) := by decide +kernel
theorem at66_39 : jm_at 66 39 = some (.iaload) := by decide +kernel
theorem at66_40 : jm_at 66 40 = some (.ireturn) := by decide +kernel
theorem u66_21 {S : Option (Nat × (Nat → Int32))} {H : jm_H} {Q : Option Value → jm_H → Prop} {r0 : Nat} (h0 : jm_tg H r0 = 11) (h1 : ¬ jm_R H r0 4 = 0) (h2 : ¬ ((jm_I (jm_pI H r0 5 ((jm_I H r0 5) - (1 : Int32))) r0 5) < 0 ∨ jm_ln H (jm_R H r0 4) ≤ Int32.toNatClampNeg (jm_I (jm_pI H r0 5 ((jm_I H r0 5) - (1 : Int32))) r0 5))) (h3 : ¬ (jm_R H r0 4) = 1) (h4 : jm_tg H (jm_R H r0 4) = 100) : jm_w S 1 66 21 [.ref r0] [] H Q = Q (some (.int (jm_I (jm_pI H r0 5 ((jm_I H r0 5) - (1 : Int32))) (jm_R H r0 4) (Int32.toNatClampNeg (jm_I (jm_pI H r0 5 ((jm_I H r0 5) - (1 : Int32))) r0 5))))) (jm_pI H r0 5 ((jm_I H r0 5) - (1 : Int32))) := (js1 at66_21 rfl rfl rfl).trans ((js0 at66_22 rfl rfl rfl).trans ((jsgI (H := H) at66_23 rv66g_39 (Or.inl rfl) h0 rfl).trans ((jsci at66_26 rfl rfl).trans ((js0 at66_27 rfl rfl rfl).trans ((jspI (H := H) at66_28 rv66p_39 rfl h0 rfl).trans ((js1 at66_31 rfl rfl rfl).trans ((jsgR (H := (jm_pI H r0 5 ((jm_I H r0 5) - (1 : Int32)))) at66_32 rv66g_35 rfl h0 h1 rfl).trans ((js1 at66_35 rfl rfl rfl).trans ((jsgI (H := (jm_pI H r0 5 ((jm_I H r0 5) - (1 : Int32)))) at66_36 rv66g_39 (Or.inl rfl) h0 rfl).trans ((jsial (H := (jm_pI H r0 5 ((jm_I H r0 5) - (1 : Int32)))) at66_39 h3 h4 h2 rfl).trans (jsret_i at66_40 rfl)))))))))))
theorem en66 {S : Option (Nat × (Nat → Int32))} {H : jm_H} {Q : Option Value → jm_H → Prop} {r0 : Nat} : jm_c S 66 [.ref r0] H Q = jm_w S 1 66 0 [.ref r0] [] H Q := rfl
theorem at79_0 : jm_at 79 0 = some (.aload_n 0) := by decide +kernel
theorem at79_1 : jm_at 79 1 = some (.getfield 21) := by decide +kernel
theorem rv79g_21 : jm_rv 79 (.getfield 21) = (0, 10, 1, 0) := by decide +kernel
theorem at79_4 : jm_at 79 4 = some (.invokevirtual 83) := by decide +kernel
theorem rv79i_83 : jm_rv 79 (.invokevirtual 83) = (2, 42, 0, 0) := by decide +kernel
theorem u79_0 {S : Option (Nat × (Nat → Int32))} {H : jm_H} {Q : Option Value → jm_H → Prop} {r0 : Nat} {x1 x2 x3 : Int32} (h0 : jm_tg H r0 = 11) (h1 : ¬ jm_R H r0 1 = 0) (h2 : jm_tg H (jm_R H r0 1) = 8) : jm_w S 6 79 0 [.ref r0, .int x1, .int x2, .int x3, .null] [] H Q = jm_c S 42 [.ref (jm_R H r0 1)] H (fun v G => jm_w S 6 79 7 [.ref r0, .int x1, .int x2, .int x3, .null] (v.toList ++ []) G Q) := (js1 at79_0 rfl rfl rfl).trans ((jsgR (H := H) at79_1 rv79g_21 rfl h0 h1 rfl).trans (jscall (H := H) (as := [.ref (jm_R H r0 1)]) (q := []) at79_4 rfl rv79i_83 (jscutV rfl rfl rfl (Nat.le_of_ble_eq_true rfl) rfl h2) rfl (Nat.le_of_ble_eq_true rfl) rfl rfl))
theorem at79_7 : jm_at 79 7 = some (.iconst 0) := by decide +kernel
theorem at79_8 : jm_at 79 8 = some (.istore 4) := by decide +kernel
theorem u79_7 {S : Option (Nat × (Nat → Int32))} {H : jm_H} {Q : Option Value → jm_H → Prop} {r0 : Nat} {x1 x2 x3 : Int32} : jm_w S 6 79 7 [.ref r0, .int x1, .int x2, .int x3, .null] [] H Q = jm_w S 6 79 10 [.ref r0, .int x1, .int x2, .int x3, .int (0 : Int32)] [] H Q := (jsci at79_7 rfl rfl).trans (js1 at79_8 rfl rfl rfl)
theorem at79_10 : jm_at 79 10 = some (.iload 4) := by decide +kernel
theorem at79_12 : jm_at 79 12 = some (.iload_n 3) := by decide +kernel
theorem at79_13 : jm_at 79 13 = some (.if_icmp .ge 51) := by decide +kernel
theorem u79_10 {S : Option (Nat × (Nat → Int32))} {H : jm_H} {Q : Option Value → jm_H → Prop} {r0 : Nat} {x1 x2 x3 x4 : Int32} : jm_w S 6 79 10 [.ref r0, .int x1, .int x2, .int x3, .int x4] [] H Q = if x3 ≤ x4 then jm_w S 6 79 64 [.ref r0, .int x1, .int x2, .int x3, .int x4] [] H Q else jm_w S 6 79 16 [.ref r0, .int x1, .int x2, .int x3, .int x4] [] H Q := (js1 at79_10 rfl rfl rfl).trans ((js1 at79_12 rfl rfl rfl).trans (jsif (P := x3 ≤ x4) at79_13 rfl rfl))
theorem at79_16 : jm_at 79 16 = some (.aload_n 0) := by decide +kernel
theorem at79_17 : jm_at 79 17 = some (.getfield 28) := by decide +kernel
theorem rv79g_28 : jm_rv 79 (.getfield 28) = (0, 10, 2, 0) := by decide +kernel
theorem at79_20 : jm_at 79 20 = some (.iload_n 1) := by decide +kernel
theorem at79_21 : jm_at 79 21 = some (.iload_n 2) := by decide +kernel
theorem at79_22 : jm_at 79 22 = some (.aload_n 0) := by decide +kernel
theorem at79_23 : jm_at 79 23 = some (.invokevirtual 62) := by decide +kernel
theorem rv79i_62 : jm_rv 79 (.invokevirtual 62) = (2, 66, 0, 0) := by decide +kernel
theorem u79_16 {S : Option (Nat × (Nat → Int32))} {H : jm_H} {Q : Option Value → jm_H → Prop} {r0 : Nat} {x1 x2 x3 x4 : Int32} (h0 : jm_tg H r0 = 11) (h1 : ¬ jm_R H r0 2 = 0) : jm_w S 6 79 16 [.ref r0, .int x1, .int x2, .int x3, .int x4] [] H Q = jm_c S 66 [.ref r0] H (fun v G => jm_w S 6 79 26 [.ref r0, .int x1, .int x2, .int x3, .int x4] (v.toList ++ [.int x2, .int x1, .ref (jm_R H r0 2)]) G Q) := (js1 at79_16 rfl rfl rfl).trans ((jsgR (H := H) at79_17 rv79g_28 rfl h0 h1 rfl).trans ((js1 at79_20 rfl rfl rfl).trans ((js1 at79_21 rfl rfl rfl).trans ((js1 at79_22 rfl rfl rfl).trans (jscall (H := H) (as := [.ref r0]) (q := [.int x2, .int x1, .ref (jm_R H r0 2)]) at79_23 rfl rv79i_62 (jscutV rfl rfl rfl (Nat.le_of_ble_eq_true rfl) rfl h0) rfl (Nat.le_of_ble_eq_true rfl) rfl rfl)))))
theorem at79_26 : jm_at 79 26 = some (.invokevirtual 86) := by decide +kernel
theorem rv79i_86 : jm_rv 79 (.invokevirtual 86) = (2, 68, 0, 0) := by decide +kernel
theorem u79_26 {S : Option (Nat × (Nat → Int32))} {H : jm_H} {Q : Option Value → jm_H → Prop} {r0 o0 : Nat} {x1 x2 x3 x4 p1 p2 p3 : Int32} (h0 : jm_tg H o0 = 3) : jm_w S 6 79 26 [.ref r0, .int x1, .int x2, .int x3, .int x4] [.int p3, .int p2, .int p1, .ref o0] H Q = jm_c S 68 [.ref o0, .int p1, .int p2, .int p3] H (fun v G => jm_w S 6 79 29 [.ref r0, .int x1, .int x2, .int x3, .int x4] (v.toList ++ []) G Q) := jscall (H := H) (as := [.ref o0, .int p1, .int p2, .int p3]) (q := []) at79_26 rfl rv79i_86 (jscutV rfl rfl rfl (Nat.le_of_ble_eq_true rfl) rfl h0) rfl (Nat.le_of_ble_eq_true rfl) rfl rfl
theorem at79_29 : jm_at 79 29 = some (.aload_n 0) := by decide +kernel
theorem at79_30 : jm_at 79 30 = some (.getfield 32) := by decide +kernel
theorem rv79g_32 : jm_rv 79 (.getfield 32) = (0, 10, 3, 0) := by decide +kernel
theorem at79_33 : jm_at 79 33 = some (.iload_n 1) := by decide +kernel
theorem at79_34 : jm_at 79 34 = some (.iload_n 2) := by decide +kernel
theorem at79_35 : jm_at 79 35 = some (.aload_n 0) := by decide +kernel
theorem at79_36 : jm_at 79 36 = some (.invokevirtual 62) := by decide +kernel
theorem u79_29 {S : Option (Nat × (Nat → Int32))} {H : jm_H} {Q : Option Value → jm_H → Prop} {r0 : Nat} {x1 x2 x3 x4 : Int32} (h0 : jm_tg H r0 = 11) (h1 : ¬ jm_R H r0 3 = 0) : jm_w S 6 79 29 [.ref r0, .int x1, .int x2, .int x3, .int x4] [] H Q = jm_c S 66 [.ref r0] H (fun v G => jm_w S 6 79 39 [.ref r0, .int x1, .int x2, .int x3, .int x4] (v.toList ++ [.int x2, .int x1, .ref (jm_R H r0 3)]) G Q) := (js1 at79_29 rfl rfl rfl).trans ((jsgR (H := H) at79_30 rv79g_32 rfl h0 h1 rfl).trans ((js1 at79_33 rfl rfl rfl).trans ((js1 at79_34 rfl rfl rfl).trans ((js1 at79_35 rfl rfl rfl).trans (jscall (H := H) (as := [.ref r0]) (q := [.int x2, .int x1, .ref (jm_R H r0 3)]) at79_36 rfl rv79i_62 (jscutV rfl rfl rfl (Nat.le_of_ble_eq_true rfl) rfl h0) rfl (Nat.le_of_ble_eq_true rfl) rfl rfl)))))
theorem at79_39 : jm_at 79 39 = some (.invokevirtual 86) := by decide +kernel
theorem u79_39 {S : Option (Nat × (Nat → Int32))} {H : jm_H} {Q : Option Value → jm_H → Prop} {r0 o0 : Nat} {x1 x2 x3 x4 p1 p2 p3 : Int32} (h0 : jm_tg H o0 = 3) : jm_w S 6 79 39 [.ref r0, .int x1, .int x2, .int x3, .int x4] [.int p3, .int p2, .int p1, .ref o0] H Q = jm_c S 68 [.ref o0, .int p1, .int p2, .int p3] H (fun v G => jm_w S 6 79 42 [.ref r0, .int x1, .int x2, .int x3, .int x4] (v.toList ++ []) G Q) := jscall (H := H) (as := [.ref o0, .int p1, .int p2, .int p3]) (q := []) at79_39 rfl rv79i_86 (jscutV rfl rfl rfl (Nat.le_of_ble_eq_true rfl) rfl h0) rfl (Nat.le_of_ble_eq_true rfl) rfl rfl
theorem at79_42 : jm_at 79 42 = some (.aload_n 0) := by decide +kernel
theorem at79_43 : jm_at 79 43 = some (.getfield 21) := by decide +kernel
theorem at79_46 : jm_at 79 46 = some (.aload_n 0) := by decide +kernel
theorem at79_47 : jm_at 79 47 = some (.getfield 28) := by decide +kernel
theorem at79_50 : jm_at 79 50 = some (.aload_n 0) := by decide +kernel
theorem at79_51 : jm_at 79 51 = some (.getfield 32) := by decide +kernel
theorem at79_54 : jm_at 79 54 = some (.iconst 0) := by decide +kernel
theorem at79_55 : jm_at 79 55 = some (.invokevirtual 89) := by decide +kernel
theorem rv79i_89 : jm_rv 79 (.invokevirtual 89) = (2, 80, 0, 0) := by decide +kernel
theorem u79_42 {S : Option (Nat × (Nat → Int32))} {H : jm_H} {Q : Option Value → jm_H → Prop} {r0 : Nat} {x1 x2 x3 x4 : Int32} (h0 : jm_tg H r0 = 11) (h1 : ¬ jm_R H r0 1 = 0) (h2 : ¬ jm_R H r0 2 = 0) (h3 : ¬ jm_R H r0 3 = 0) (h4 : jm_tg H (jm_R H r0 1) = 8) : jm_w S 6 79 42 [.ref r0, .int x1, .int x2, .int x3, .int x4] [] H Q = jm_c S 80 [.ref (jm_R H r0 1), .ref (jm_R H r0 2), .ref (jm_R H r0 3), .int (0 : Int32)] H (fun v G => jm_w S 6 79 58 [.ref r0, .int x1, .int x2, .int x3, .int x4] (v.toList ++ []) G Q) := (js1 at79_42 rfl rfl rfl).trans ((jsgR (H := H) at79_43 rv79g_21 rfl h0 h1 rfl).trans ((js1 at79_46 rfl rfl rfl).trans ((jsgR (H := H) at79_47 rv79g_28 rfl h0 h2 rfl).trans ((js1 at79_50 rfl rfl rfl).trans ((jsgR (H := H) at79_51 rv79g_32 rfl h0 h3 rfl).trans ((jsci at79_54 rfl rfl).trans (jscall (H := H) (as := [.ref (jm_R H r0 1), .ref (jm_R H r0 2), .ref (jm_R H r0 3), .int (0 : Int32)]) (q := []) at79_55 rfl rv79i_89 (jscutV rfl rfl rfl (Nat.le_of_ble_eq_true rfl) rfl h4) rfl (Nat.le_of_ble_eq_true rfl) rfl rfl)))))))
theorem at79_58 : jm_at 79 58 = some (.iinc 4 1) := by decide +kernel
theorem at79_61 : jm_at 79 61 = some (.goto (-51)) := by decide +kernel
theorem u79_58 {S : Option (Nat × (Nat → Int32))} {H : jm_H} {Q : Option Value → jm_H → Prop} {r0 : Nat} {x1 x2 x3 x4 : Int32} : jm_w S 6 79 58 [.ref r0, .int x1, .int x2, .int x3, .int x4] [] H Q = jm_w S 6 79 10 [.ref r0, .int x1, .int x2, .int x3, .int (x4 + 1)] [] H Q := (jsinc at79_58 rfl rfl rfl).trans (js2 at79_61 rfl rfl)
theorem at79_64 : jm_at 79 64 = some (.aload_n 0) := by decide +kernel
theorem at79_65 : jm_at 79 65 = some (.getfield 21) := by decide +kernel
theorem at79_68 : jm_at 79 68 = some (.aload_n 0) := by decide +kernel
theorem at79_69 : jm_at 79 69 = some (.getfield 28) := by decide +kernel
theorem at79_72 : jm_at 79 72 = some (.invokevirtual 93) := by decide +kernel
theorem rv79i_93 : jm_rv 79 (.invokevirtual 93) = (2, 83, 0, 0) := by decide +kernel
theorem u79_64 {S : Option (Nat × (Nat → Int32))} {H : jm_H} {Q : Option Value → jm_H → Prop} {r0 : Nat} {x1 x2 x3 x4 : Int32} (h0 : jm_tg H r0 = 11) (h1 : ¬ jm_R H r0 1 = 0) (h2 : ¬ jm_R H r0 2 = 0) (h3 : jm_tg H (jm_R H r0 1) = 8) : jm_w S 6 79 64 [.ref r0, .int x1, .int x2, .int x3, .int x4] [] H Q = jm_c S 83 [.ref (jm_R H r0 1), .ref (jm_R H r0 2)] H (fun v G => jm_w S 6 79 75 [.ref r0, .int x1, .int x2, .int x3, .int x4] (v.toList ++ []) G Q) := (js1 at79_64 rfl rfl rfl).trans ((jsgR (H := H) at79_65 rv79g_21 rfl h0 h1 rfl).trans ((js1 at79_68 rfl rfl rfl).trans ((jsgR (H := H) at79_69 rv79g_28 rfl h0 h2 rfl).trans (jscall (H := H) (as := [.ref (jm_R H r0 1), .ref (jm_R H r0 2)]) (q := []) at79_72 rfl rv79i_93 (jscutV rfl rfl rfl (Nat.le_of_ble_eq_true rfl) rfl h3) rfl (Nat.le_of_ble_eq_true rfl) rfl rfl))))
theorem at79_75 : jm_at 79 75 = some (.aload_n 0) := by decide +kernel
theorem at79_76 : jm_at 79 76 = some (.aload_n 0) := by decide +kernel
theorem at79_77 : jm_at 79 77 = some (.getfield 12) := by decide +kernel
theorem rv79g_12 : jm_rv 79 (.getfield 12) = (0, 10, 0, 0) := by decide +kernel
theorem at79_80 : jm_at 79 80 = some (.iload_n 1) := by decide +kernel
theorem at79_81 : jm_at 79 81 = some (.iload_n 2) := by decide +kernel
theorem at79_82 : jm_at 79 82 = some (.aload_n 0) := by decide +kernel
theorem at79_83 : jm_at 79 83 = some (.getfield 28) := by decide +kernel
theorem at79_86 : jm_at 79 86 = some (.invokevirtual 97) := by decide +kernel
theorem rv79i_97 : jm_rv 79 (.invokevirtual 97) = (2, 49, 0, 0) := by decide +kernel
theorem u79_75 {S : Option (Nat × (Nat → Int32))} {H : jm_H} {Q : Option Value → jm_H → Prop} {r0 : Nat} {x1 x2 x3 x4 : Int32} (h0 : jm_tg H r0 = 11) (h1 : ¬ jm_R H r0 0 = 0) (h2 : ¬ jm_R H r0 2 = 0) (h3 : jm_tg H (jm_R H r0 0) = 4) : jm_w S 6 79 75 [.ref r0, .int x1, .int x2, .int x3, .int x4] [] H Q = jm_c S 49 [.ref (jm_R H r0 0), .int x1, .int x2, .ref (jm_R H r0 2)] H (fun v G => jm_w S 6 79 89 [.ref r0, .int x1, .int x2, .int x3, .int x4] (v.toList ++ [.ref r0]) G Q) := (js1 at79_75 rfl rfl rfl).trans ((js1 at79_76 rfl rfl rfl).trans ((jsgR (H := H) at79_77 rv79g_12 rfl h0 h1 rfl).trans ((js1 at79_80 rfl rfl rfl).trans ((js1 at79_81 rfl rfl rfl).trans ((js1 at79_82 rfl rfl rfl).trans ((jsgR (H := H) at79_83 rv79g_28 rfl h0 h2 rfl).trans (jscall (H := H) (as := [.ref (jm_R H r0 0), .int x1, .int x2, .ref (jm_R H r0 2)]) (q := [.ref r0]) at79_86 rfl rv79i_97 (jscutV rfl rfl rfl (Nat.le_of_ble_eq_true rfl) rfl h3) rfl (Nat.le_of_ble_eq_true rfl) rfl rfl)))))))
theorem at79_89 : jm_at 79 89 = some (.invokevirtual 58) := by decide +kernel
theorem rv79i_58 : jm_rv 79 (.invokevirtual 58) = (2, 65, 0, 0) := by decide +kernel
theorem u79_89 {S : Option (Nat × (Nat → Int32))} {H : jm_H} {Q : Option Value → jm_H → Prop} {r0 o0 : Nat} {x1 x2 x3 x4 p1 : Int32} (h0 : jm_tg H o0 = 11) : jm_w S 6 79 89 [.ref r0, .int x1, .int x2, .int x3, .int x4] [.int p1, .ref o0] H Q = jm_c S 65 [.ref o0, .int p1] H (fun v G => jm_w S 6 79 92 [.ref r0, .int x1, .int x2, .int x3, .int x4] (v.toList ++ []) G Q) := jscall (H := H) (as := [.ref o0, .int p1]) (q := []) at79_89 rfl rv79i_58 (jscutV rfl rfl rfl (Nat.le_of_ble_eq_true rfl) rfl h0) rfl (Nat.le_of_ble_eq_true rfl) rfl rfl
theorem at79_92 : jm_at 79 92 = some (.return_) := by decide +kernel
theorem u79_92 {S : Option (Nat × (Nat → Int32))} {H : jm_H} {Q : Option Value → jm_H → Prop} {r0 : Nat} {x1 x2 x3 x4 : Int32} : jm_w S 6 79 92 [.ref r0, .int x1, .int x2, .int x3, .int x4] [] H Q = Q none H := jsret_v at79_92 rfl
theorem en79 {S : Option (Nat × (Nat → Int32))} {H : jm_H} {Q : Option Value → jm_H → Prop} {r0 : Nat} {x1 x2 x3 : Int32} : jm_c S 79 [.ref r0, .int x1, .int x2, .int x3] H Q = jm_w S 6 79 0 [.ref r0, .int x1, .int x2, .int x3, .null] [] H Q := rfl
theorem at17_0 : jm_at 17 0 = some (.aload_n 0) := by decide +kernel
theorem at17_1 : jm_at 17 1 = some (.invokevirtual 29) := by decide +kernel
theorem rv17i_29 : jm_rv 17 (.invokevirtual 29) = (2, 18, 0, 0) := by decide +kernel
theorem u17_0 {S : Option (Nat × (Nat → Int32))} {H : jm_H} {Q : Option Value → jm_H → Prop} {r0 : Nat} (h0 : jm_tg H r0 = 2) : jm_w S 47 17 0 [.ref r0, .null] [] H Q = jm_c S 18 [.ref r0] H (fun v G => jm_w S 47 17 4 [.ref r0, .null] (v.toList ++ []) G Q) := (js1 at17_0 rfl rfl rfl).trans (jscall (H := H) (as := [.ref r0]) (q := []) at17_1 rfl rv17i_29 (jscutV rfl rfl rfl (Nat.le_of_ble_eq_true rfl) rfl h0) rfl (Nat.le_of_ble_eq_true rfl) rfl rfl)
theorem at17_4 : jm_at 17 4 = some (.aload_n 0) := by decide +kernel
theorem at17_5 : jm_at 17 5 = some (.iconst 4) := by decide +kernel
theorem at17_6 : jm_at 17 6 = some (.invokevirtual 32) := by decide +kernel
theorem rv17i_32 : jm_rv 17 (.invokevirtual 32) = (2, 28, 0, 0) := by decide +kernel
theorem u17_4 {S : Option (Nat × (Nat → Int32))} {H : jm_H} {Q : Option Value → jm_H → Prop} {r0 : Nat} (h0 : jm_tg H r0 = 2) : jm_w S 47 17 4 [.ref r0, .null] [] H Q = jm_c S 28 [.ref r0, .int (4 : Int32)] H (fun v G => jm_w S 47 17 9 [.ref r0, .null] (v.toList ++ []) G Q) := (js1 at17_4 rfl rfl rfl).trans ((jsci at17_5 rfl rfl).trans (jscall (H := H) (as := [.ref r0, .int (4 : Int32)]) (q := []) at17_6 rfl rv17i_32 (jscutV rfl rfl rfl (Nat.le_of_ble_eq_true rfl) rfl h0) rfl (Nat.le_of_ble_eq_true rfl) rfl rfl))
theorem at17_9 : jm_at 17 9 = some (.pop) := by decide +kernel
theorem at17_10 : jm_at 17 10 = some (.aload_n 0) := by decide +kernel
theorem at17_11 : jm_at 17 11 = some (.getfield 25) := by decide +kernel
theorem rv17g_25 : jm_rv 17 (.getfield 25) = (0, 1, 2, 0) := by decide +kernel
theorem at17_14 : jm_at 17 14 = some (.aload_n 0) := by decide +kernel
theorem at17_15 : jm_at 17 15 = some (.iconst 3) := by decide +kernel
theorem at17_16 : jm_at 17 16 = some (.bipush 12) := by decide +kernel
theorem at17_18 : jm_at 17 18 = some (.invokevirtual 36) := by decide +kernel
theorem rv17i_36 : jm_rv 17 (.invokevirtual 36) = (2, 30, 0, 0) := by decide +kernel
theorem u17_9 {S : Option (Nat × (Nat → Int32))} {H : jm_H} {Q : Option Value → jm_H → Prop} {r0 : Nat} {p0 : Int32} (h0 : jm_tg H r0 = 2) (h1 : ¬ jm_R H r0 2 = 0) : jm_w S 47 17 9 [.ref r0, .null] [.int p0] H Q = jm_c S 30 [.ref r0, .int (3 : Int32), .int (12 : Int32)] H (fun v G => jm_w S 47 17 21 [.ref r0, .null] (v.toList ++ [.ref (jm_R H r0 2)]) G Q) := (js0 at17_9 rfl rfl rfl).trans ((js1 at17_10 rfl rfl rfl).trans ((jsgR (H := H) at17_11 rv17g_25 rfl h0 h1 rfl).trans ((js1 at17_14 rfl rfl rfl).trans ((jsci at17_15 rfl rfl).trans ((jscb at17_16 rfl rfl).trans (jscall (H := H) (as := [.ref r0, .int (3 : Int32), .int (12 : Int32)]) (q := [.ref (jm_R H r0 2)]) at17_18 rfl rv17i_36 (jscutV rfl rfl rfl (Nat.le_of_ble_eq_true rfl) rfl h0) rfl (Nat.le_of_ble_eq_true rfl) rfl rfl))))))
theorem at17_21 : jm_at 17 21 = some (.putfield 40) := by decide +kernel
theorem rv17p_40 : jm_rv 17 (.putfield 40) = (0, 9, 4, 0) := by decide +kernel
theorem at17_24 : jm_at 17 24 = some (.aload_n 0) := by decide +kernel
theorem at17_25 : jm_at 17 25 = some (.getfield 25) := by decide +kernel
theorem at17_28 : jm_at 17 28 = some (.aload_n 0) := by decide +kernel
theorem at17_29 : jm_at 17 29 = some (.iconst 0) := by decide +kernel
theorem at17_30 : jm_at 17 30 = some (.iconst 2) := by decide +kernel
theorem at17_31 : jm_at 17 31 = some (.invokevirtual 36) := by decide +kernel
theorem u17_21 {S : Option (Nat × (Nat → Int32))} {H : jm_H} {Q : Option Value → jm_H → Prop} {r0 o0 : Nat} {p1 : Int32} (h0 : jm_tg H o0 = 10) (h1 : jm_tg H r0 = 2) (h2 : ¬ jm_R H r0 2 = 0) : jm_w S 47 17 21 [.ref r0, .null] [.int p1, .ref o0] H Q = jm_c S 30 [.ref r0, .int (0 : Int32), .int (2 : Int32)] (jm_pI H o0 4 p1) (fun v G => jm_w S 47 17 34 [.ref r0, .null] (v.toList ++ [.ref (jm_R H r0 2)]) G Q) := (jspI (H := H) at17_21 rv17p_40 rfl h0 rfl).trans ((js1 at17_24 rfl rfl rfl).trans ((jsgR (H := (jm_pI H o0 4 p1)) at17_25 rv17g_25 rfl h1 h2 rfl).trans ((js1 at17_28 rfl rfl rfl).trans ((jsci at17_29 rfl rfl).trans ((jsci at17_30 rfl rfl).trans (jscall (H := (jm_pI H o0 4 p1)) (as := [.ref r0, .int (0 : Int32), .int (2 : Int32)]) (q := [.ref (jm_R H r0 2)]) at17_31 rfl rv17i_36 (jscutV rfl rfl rfl (Nat.le_of_ble_eq_true rfl) rfl h1) rfl (Nat.le_of_ble_eq_true rfl) rfl rfl))))))
theorem at17_34 : jm_at 17 34 = some (.putfield 44) := by decide +kernel
theorem rv17p_44 : jm_rv 17 (.putfield 44) = (0, 9, 5, 0) := by decide +kernel
theorem at17_37 : jm_at 17 37 = some (.aload_n 0) := by decide +kernel
theorem at17_38 : jm_at 17 38 = some (.bipush 59) := by decide +kernel
theorem at17_40 : jm_at 17 40 = some (.invokevirtual 32) := by decide +kernel
theorem u17_34 {S : Option (Nat × (Nat → Int32))} {H : jm_H} {Q : Option Value → jm_H → Prop} {r0 o0 : Nat} {p1 : Int32} (h0 : jm_tg H o0 = 10) (h1 : jm_tg H r0 = 2) : jm_w S 47 17 34 [.ref r0, .null] [.int p1, .ref o0] H Q = jm_c S 28 [.ref r0, .int (59 : Int32)] (jm_pI H o0 5 p1) (fun v G => jm_w S 47 17 43 [.ref r0, .null] (v.toList ++ []) G Q) := (jspI (H := H) at17_34 rv17p_44 rfl h0 rfl).trans ((js1 at17_37 rfl rfl rfl).trans ((jscb at17_38 rfl rfl).trans (jscall (H := (jm_pI H o0 5 p1)) (as := [.ref r0, .int (59 : Int32)]) (q := []) at17_40 rfl rv17i_32 (jscutV rfl rfl rfl (Nat.le_of_ble_eq_true rfl) rfl h1) rfl (Nat.le_of_ble_eq_true rfl) rfl rfl)))
theorem at17_43 : jm_at 17 43 = some (.pop) := by decide +kernel
theorem at17_44 : jm_at 17 44 = some (.iconst 0) := by decide +kernel
theorem at17_45 : jm_at 17 45 = some (.istore_n 1) := by decide +kernel
theorem u17_43 {S : Option (Nat × (Nat → Int32))} {H : jm_H} {Q : Option Value → jm_H → Prop} {r0 : Nat} {p0 : Int32} : jm_w S 47 17 43 [.ref r0, .null] [.int p0] H Q = jm_w S 47 17 46 [.ref r0, .int (0 : Int32)] [] H Q := (js0 at17_43 rfl rfl rfl).trans ((jsci at17_44 rfl rfl).trans (js1 at17_45 rfl rfl rfl))
theorem at17_46 : jm_at 17 46 = some (.iload_n 1) := by decide +kernel
theorem at17_47 : jm_at 17 47 = some (.bipush 8) := by decide +kernel
theorem at17_49 : jm_at 17 49 = some (.if_icmp .gt 21) := by decide +kernel
theorem u17_46 {S : Option (Nat × (Nat → Int32))} {H : jm_H} {Q : Option Value → jm_H → Prop} {r0 : Nat} {x1 : Int32} : jm_w S 47 17 46 [.ref r0, .int x1] [] H Q = if (8 : Int32) < x1 then jm_w S 47 17 70 [.ref r0, .int x1] [] H Q else jm_w S 47 17 52 [.ref r0, .int x1] [] H Q := (js1 at17_46 rfl rfl rfl).trans ((jscb at17_47 rfl rfl).trans (jsif (P := (8 : Int32) < x1) at17_49 rfl rfl))
theorem at17_52 : jm_at 17 52 = some (.aload_n 0) := by decide +kernel
theorem at17_53 : jm_at 17 53 = some (.getfield 47) := by decide +kernel
theorem rv17g_47 : jm_rv 17 (.getfield 47) = (0, 1, 5, 0) := by decide +kernel
theorem at17_56 : jm_at 17 56 = some (.iconst 5) := by decide +kernel
theorem at17_57 : jm_at 17 57 = some (.if_icmp .ne 13) := by decide +kernel
theorem u17_52 {S : Option (Nat × (Nat → Int32))} {H : jm_H} {Q : Option Value → jm_H → Prop} {r0 : Nat} {x1 : Int32} (h0 : jm_tg H r0 = 2) : jm_w S 47 17 52 [.ref r0, .int x1] [] H Q = if ¬ (jm_I H r0 5) = (5 : Int32) then jm_w S 47 17 70 [.ref r0, .int x1] [] H Q else jm_w S 47 17 60 [.ref r0, .int x1] [] H Q := (js1 at17_52 rfl rfl rfl).trans ((jsgI (H := H) at17_53 rv17g_47 (Or.inl rfl) h0 rfl).trans ((jsci at17_56 rfl rfl).trans (jsif (P := ¬ (jm_I H r0 5) = (5 : Int32)) at17_57 rfl rfl)))
theorem at17_60 : jm_at 17 60 = some (.aload_n 0) := by decide +kernel
theorem at17_61 : jm_at 17 61 = some (.invokevirtual 50) := by decide +kernel
theorem rv17i_50 : jm_rv 17 (.invokevirtual 50) = (2, 32, 0, 0) := by decide +kernel
theorem u17_60 {S : Option (Nat × (Nat → Int32))} {H : jm_H} {Q : Option Value → jm_H → Prop} {r0 : Nat} {x1 : Int32} (h0 : jm_tg H r0 = 2) : jm_w S 47 17 60 [.ref r0, .int x1] [] H Q = jm_c S 32 [.ref r0] H (fun v G => jm_w S 47 17 64 [.ref r0, .int x1] (v.toList ++ []) G Q) := (js1 at17_60 rfl rfl rfl).trans (jscall (H := H) (as := [.ref r0]) (q := []) at17_61 rfl rv17i_50 (jscutV rfl rfl rfl (Nat.le_of_ble_eq_true rfl) rfl h0) rfl (Nat.le_of_ble_eq_true rfl) rfl rfl)
theorem at17_64 : jm_at 17 64 = some (.iinc 1 1) := by decide +kernel
theorem at17_67 : jm_at 17 67 = some (.goto (-21)) := by decide +kernel
theorem u17_64 {S : Option (Nat × (Nat → Int32))} {H : jm_H} {Q : Option Value → jm_H → Prop} {r0 : Nat} {x1 : Int32} : jm_w S 47 17 64 [.ref r0, .int x1] [] H Q = jm_w S 47 17 46 [.ref r0, .int (x1 + 1)] [] H Q := (jsinc at17_64 rfl rfl rfl).trans (js2 at17_67 rfl rfl)
theorem at17_70 : jm_at 17 70 = some (.aload_n 0) := by decide +kernel
theorem at17_71 : jm_at 17 71 = some (.getfield 47) := by decide +kernel
theorem at17_74 : jm_at 17 74 = some (.ifCond .eq 8) := by decide +kernel
theorem u17_70 {S : Option (Nat × (Nat → Int32))} {H : jm_H} {Q : Option Value → jm_H → Prop} {r0 : Nat} {x1 : Int32} (h0 : jm_tg H r0 = 2) : jm_w S 47 17 70 [.ref r0, .int x1] [] H Q = if (jm_I H r0 5) = 0 then jm_w S 47 17 82 [.ref r0, .int x1] [] H Q else jm_w S 47 17 77 [.ref r0, .int x1] [] H Q := (js1 at17_70 rfl rfl rfl).trans ((jsgI (H := H) at17_71 rv17g_47 (Or.inl rfl) h0 rfl).trans (jsif (P := (jm_I H r0 5) = 0) at17_74 rfl rfl))
theorem at17_77 : jm_at 17 77 = some (.aload_n 0) := by decide +kernel
theorem at17_78 : jm_at 17 78 = some (.iconst 1) := by decide +kernel
theorem at17_79 : jm_at 17 79 = some (.invokevirtual 53) := by decide +kernel
theorem rv17i_53 : jm_rv 17 (.invokevirtual 53) = (2, 29, 0, 0) := by decide +kernel
theorem u17_77 {S : Option (Nat × (Nat → Int32))} {H : jm_H} {Q : Option Value → jm_H → Prop} {r0 : Nat} {x1 : Int32} (h0 : jm_tg H r0 = 2) : jm_w S 47 17 77 [.ref r0, .int x1] [] H Q = jm_c S 29 [.ref r0, .int (1 : Int32)] H (fun v G => jm_w S 47 17 82 [.ref r0, .int x1] (v.toList ++ []) G Q) := (js1 at17_77 rfl rfl rfl).trans ((jsci at17_78 rfl rfl).trans (jscall (H := H) (as := [.ref r0, .int (1 : Int32)]) (q := []) at17_79 rfl rv17i_53 (jscutV rfl rfl rfl (Nat.le_of_ble_eq_true rfl) rfl h0) rfl (Nat.le_of_ble_eq_true rfl) rfl rfl))
theorem at17_82 : jm_at 17 82 = some (.aload_n 0) := by decide +kernel
theorem at17_83 : jm_at 17 83 = some (.getfield 57) := by decide +kernel
theorem rv17g_57 : jm_rv 17 (.getfield 57) = (0, 1, 11, 0) := by decide +kernel
theorem at17_86 : jm_at 17 86 = some (.ifCond .ne 26) := by decide +kernel
theorem u17_82 {S : Option (Nat × (Nat → Int32))} {H : jm_H} {Q : Option Value → jm_H → Prop} {r0 : Nat} {x1 : Int32} (h0 : jm_tg H r0 = 2) : jm_w S 47 17 82 [.ref r0, .int x1] [] H Q = if ¬ (jm_I H r0 11) = 0 then jm_w S 47 17 112 [.ref r0, .int x1] [] H Q else jm_w S 47 17 89 [.ref r0, .int x1] [] H Q := (js1 at17_82 rfl rfl rfl).trans ((jsgI (H := H) at17_83 rv17g_57 (Or.inl rfl) h0 rfl).trans (jsif (P := ¬ (jm_I H r0 11) = 0) at17_86 rfl rfl))
theorem at17_89 : jm_at 17 89 = some (.aload_n 0) := by decide +kernel
theorem at17_90 : jm_at 17 90 = some (.getfield 60) := by decide +kernel
theorem rv17g_60 : jm_rv 17 (.getfield 60) = (0, 1, 12, 0) := by decide +kernel
theorem at17_93 : jm_at 17 93 = some (.ifCond .eq 19) := by decide +kernel
theorem u17_89 {S : Option (Nat × (Nat → Int32))} {H : jm_H} {Q : Option Value → jm_H → Prop} {r0 : Nat} {x1 : Int32} (h0 : jm_tg H r0 = 2) : jm_w S 47 17 89 [.ref r0, .int x1] [] H Q = if (jm_I H r0 12) = 0 then jm_w S 47 17 112 [.ref r0, .int x1] [] H Q else jm_w S 47 17 96 [.ref r0, .int x1] [] H Q := (js1 at17_89 rfl rfl rfl).trans ((jsgI (H := H) at17_90 rv17g_60 (Or.inl rfl) h0 rfl).trans (jsif (P := (jm_I H r0 12) = 0) at17_93 rfl rfl))
theorem at17_96 : jm_at 17 96 = some (.aload_n 0) := by decide +kernel
theorem at17_97 : jm_at 17 97 = some (.aload_n 0) := by decide +kernel
theorem at17_98 : jm_at 17 98 = some (.getfield 60) := by decide +kernel
theorem at17_101 : jm_at 17 101 = some (.putfield 57) := by decide +kernel
theorem rv17p_57 : jm_rv 17 (.putfield 57) = (0, 1, 11, 0) := by decide +kernel
theorem at17_104 : jm_at 17 104 = some (.aload_n 0) := by decide +kernel
theorem at17_105 : jm_at 17 105 = some (.aload_n 0) := by decide +kernel
theorem at17_106 : jm_at 17 106 = some (.getfield 63) := by decide +kernel
theorem rv17g_63 : jm_rv 17 (.getfield 63) = (0, 1, 13, 0) := by decide +kernel
theorem at17_109 : jm_at 17 109 = some (.putfield 66) := by decide +kernel
theorem rv17p_66 : jm_rv 17 (.putfield 66) = (0, 1, 3, 0) := by decide +kernel
theorem u17_96 {S : Option (Nat × (Nat → Int32))} {H : jm_H} {Q : Option Value → jm_H → Prop} {r0 : Nat} {x1 : Int32} (h0 : jm_tg H r0 = 2) : jm_w S 47 17 96 [.ref r0, .int x1] [] H Q = jm_w S 47 17 112 [.ref r0, .int x1] [] (jm_pI (jm_pI H r0 11 (jm_I H r0 12)) r0 3 (jm_I (jm_pI H r0 11 (jm_I H r0 12)) r0 13)) Q := (js1 at17_96 rfl rfl rfl).trans ((js1 at17_97 rfl rfl rfl).trans ((jsgI (H := H) at17_98 rv17g_60 (Or.inl rfl) h0 rfl).trans ((jspI (H := H) at17_101 rv17p_57 rfl h0 rfl).trans ((js1 at17_104 rfl rfl rfl).trans ((js1 at17_105 rfl rfl rfl).trans ((jsgI (H := (jm_pI H r0 11 (jm_I H r0 12))) at17_106 rv17g_63 (Or.inl rfl) h0 rfl).trans (jspI (H := (jm_pI H r0 11 (jm_I H r0 12))) at17_109 rv17p_66 rfl h0 rfl)))))))
theorem at17_112 : jm_at 17 112 = some (.aload_n 0) := by decide +kernel
theorem at17_113 : jm_at 17 113 = some (.getfield 57) := by decide +kernel
theorem at17_116 : jm_at 17 116 = some (.ireturn) := by decide +kernel
theorem u17_112 {S : Option (Nat × (Nat → Int32))} {H : jm_H} {Q : Option Value → jm_H → Prop} {r0 : Nat} {x1 : Int32} (h0 : jm_tg H r0 = 2) : jm_w S 47 17 112 [.ref r0, .int x1] [] H Q = Q (some (.int (jm_I H r0 11))) H := (js1 at17_112 rfl rfl rfl).trans ((jsgI (H := H) at17_113 rv17g_57 (Or.inl rfl) h0 rfl).trans (jsret_i at17_116 rfl))
theorem en17 {S : Option (Nat × (Nat → Int32))} {H : jm_H} {Q : Option Value → jm_H → Prop} {r0 : Nat} : jm_c S 17 [.ref r0] H Q = jm_w S 47 17 0 [.ref r0, .null] [] H Q := rfl
theorem at18_0 : jm_at 18 0 = some (.aload_n 0) := by decide +kernel
theorem at18_1 : jm_at 18 1 = some (.getfield 25) := by decide +kernel
theorem rv18g_25 : jm_rv 18 (.getfield 25) = (0, 1, 2, 0) := by decide +kernel
theorem at18_4 : jm_at 18 4 = some (.iconst 0) := by decide +kernel
theorem at18_5 : jm_at 18 5 = some (.putfield 69) := by decide +kernel
theorem rv18p_69 : jm_rv 18 (.putfield 69) = (0, 9, 2, 0) := by decide +kernel
theorem at18_8 : jm_at 18 8 = some (.aload_n 0) := by decide +kernel
theorem at18_9 : jm_at 18 9 = some (.getfield 25) := by decide +kernel
theorem at18_12 : jm_at 18 12 = some (.iconst 0) := by decide +kernel
theorem at18_13 : jm_at 18 13 = some (.putfield 72) := by decide +kernel
theorem rv18p_72 : jm_rv 18 (.putfield 72) = (0, 9, 3, 0) := by decide +kernel
theorem at18_16 : jm_at 18 16 = some (.aload_n 0) := by decide +kernel
theorem at18_17 : jm_at 18 17 = some (.iconst 0) := by decide +kernel
theorem at18_18 : jm_at 18 18 = some (.putfield 75) := by decide +kernel
theorem rv18p_75 : jm_rv 18 (.putfield 75) = (0, 1, 4, 0) := by decide +kernel
theorem at18_21 : jm_at 18 21 = some (.aload_n 0) := by decide +kernel
theorem at18_22 : jm_at 18 22 = some (.iconst 0) := by decide +kernel
theorem at18_23 : jm_at 18 23 = some (.putfield 78) := by decide +kernel
theorem rv18p_78 : jm_rv 18 (.putfield 78) = (0, 1, 8, 0) := by decide +kernel
theorem at18_26 : jm_at 18 26 = some (.aload_n 0) := by decide +kernel
theorem at18_27 : jm_at 18 27 = some (.iconst 0) := by decide +kernel
theorem at18_28 : jm_at 18 28 = some (.putfield 81) := by decide +kernel
theorem rv18p_81 : jm_rv 18 (.putfield 81) = (0, 1, 9, 0) := by decide +kernel
theorem at18_31 : jm_at 18 31 = some (.aload_n 0) := by decide +kernel
theorem at18_32 : jm_at 18 32 = some (.iconst 0) := by decide +kernel
theorem at18_33 : jm_at 18 33 = some (.putfield 84) := by decide +kernel
theorem rv18p_84 : jm_rv 18 (.putfield 84) = (0, 1, 10, 0) := by decide +kernel
theorem at18_36 : jm_at 18 36 = some (.aload_n 0) := by decide +kernel
theorem at18_37 : jm_at 18 37 = some (.iconst 0) := by decide +kernel
theorem at18_38 : jm_at 18 38 = some (.putfield 57) := by decide +kernel
theorem rv18p_57 : jm_rv 18 (.putfield 57) = (0, 1, 11, 0) := by decide +kernel
theorem at18_41 : jm_at 18 41 = some (.aload_n 0) := by decide +kernel
theorem at18_42 : jm_at 18 42 = some (.iconst (-1)) := by decide +kernel
theorem at18_43 : jm_at 18 43 = some (.putfield 66) := by decide +kernel
theorem rv18p_66 : jm_rv 18 (.putfield 66) = (0, 1, 3, 0) := by decide +kernel
theorem at18_46 : jm_at 18 46 = some (.aload_n 0) := by decide +kernel
theorem at18_47 : jm_at 18 47 = some (.iconst 0) := by decide +kernel
theorem at18_48 : jm_at 18 48 = some (.putfield 60) := by decide +kernel
theorem rv18p_60 : jm_rv 18 (.putfield 60) = (0, 1, 12, 0) := by decide +kernel
theorem at18_51 : jm_at 18 51 = some (.aload_n 0) := by decide +kernel
theorem at18_52 : jm_at 18 52 = some (.iconst (-1)) := by decide +kernel
theorem at18_53 : jm_at 18 53 = some (.putfield 63) := by decide +kernel
theorem rv18p_63 : jm_rv 18 (.putfield 63) = (0, 1, 13, 0) := by decide +kernel
theorem at18_56 : jm_at 18 56 = some (.aload_n 0) := by decide +kernel
theorem at18_57 : jm_at 18 57 = some (.invokevirtual 87) := by decide +kernel
theorem rv18i_87 : jm_rv 18 (.invokevirtual 87) = (2, 19, 0, 0) := by decide +kernel
theorem u18_0 {S : Option (Nat × (Nat → Int32))} {H : jm_H} {Q : Option Value → jm_H → Prop} {r0 : Nat} (h0 : jm_tg H r0 = 2) (h1 : ¬ jm_R H r0 2 = 0) (h2 : jm_tg H (jm_R H r0 2) = 10) : jm_w S 4 18 0 [.ref r0] [] H Q = jm_c S 19 [.ref r0] (jm_pI (jm_pI (jm_pI (jm_pI (jm_pI (jm_pI (jm_pI (jm_pI (jm_pI (jm_pI H (jm_R H r0 2) 2 (0 : Int32)) (jm_R H r0 2) 3 (0 : Int32)) r0 4 (0 : Int32)) r0 8 (0 : Int32)) r0 9 (0 : Int32)) r0 10 (0 : Int32)) r0 11 (0 : Int32)) r0 3 (-1 : Int32)) r0 12 (0 : Int32)) r0 13 (-1 : Int32)) (fun v G => jm_w S 4 18 60 [.ref r0] (v.toList ++ []) G Q) := (js1 at18_0 rfl rfl rfl).trans ((jsgR (H := H) at18_1 rv18g_25 rfl h0 h1 rfl).trans ((jsci at18_4 rfl rfl).trans ((jspI (H := H) at18_5 rv18p_69 rfl h2 rfl).trans ((js1 at18_8 rfl rfl rfl).trans ((jsgR (H := (jm_pI H (jm_R H r0 2) 2 (0 : Int32))) at18_9 rv18g_25 rfl h0 h1 rfl).trans ((jsci at18_12 rfl rfl).trans ((jspI (H := (jm_pI H (jm_R H r0 2) 2 (0 : Int32))) at18_13 rv18p_72 rfl h2 rfl).trans ((js1 at18_16 rfl rfl rfl).trans ((jsci at18_17 rfl rfl).trans ((jspI (H := (jm_pI (jm_pI H (jm_R H r0 2) 2 (0 : Int32)) (jm_R H r0 2) 3 (0 : Int32))) at18_18 rv18p_75 rfl h0 rfl).trans ((js1 at18_21 rfl rfl rfl).trans ((jsci at18_22 rfl rfl).trans ((jspI (H := (jm_pI (jm_pI (jm_pI H (jm_R H r0 2) 2 (0 : Int32)) (jm_R H r0 2) 3 (0 : Int32)) r0 4 (0 : Int32))) at18_23 rv18p_78 rfl h0 rfl).trans ((js1 at18_26 rfl rfl rfl).trans ((jsci at18_27 rfl rfl).trans ((jspI (H := (jm_pI (jm_pI (jm_pI (jm_pI H (jm_R H r0 2) 2 (0 : Int32)) (jm_R H r0 2) 3 (0 : Int32)) r0 4 (0 : Int32)) r0 8 (0 : Int32))) at18_28 rv18p_81 rfl h0 rfl).trans ((js1 at18_31 rfl rfl rfl).trans ((jsci at18_32 rfl rfl).trans ((jspI (H := (jm_pI (jm_pI (jm_pI (jm_pI (jm_pI H (jm_R H r0 2) 2 (0 : Int32)) (jm_R H r0 2) 3 (0 : Int32)) r0 4 (0 : Int32)) r0 8 (0 : Int32)) r0 9 (0 : Int32))) at18_33 rv18p_84 rfl h0 rfl).trans ((js1 at18_36 rfl rfl rfl).trans ((jsci at18_37 rfl rfl).trans ((jspI (H := (jm_pI (jm_pI (jm_pI (jm_pI (jm_pI (jm_pI H (jm_R H r0 2) 2 (0 : Int32)) (jm_R H r0 2) 3 (0 : Int32)) r0 4 (0 : Int32)) r0 8 (0 : Int32)) r0 9 (0 : Int32)) r0 10 (0 : Int32))) at18_38 rv18p_57 rfl h0 rfl).trans ((js1 at18_41 rfl rfl rfl).trans ((jsci at18_42 rfl rfl).trans ((jspI (H := (jm_pI (jm_pI (jm_pI (jm_pI (jm_pI (jm_pI (jm_pI H (jm_R H r0 2) 2 (0 : Int32)) (jm_R H r0 2) 3 (0 : Int32)) r0 4 (0 : Int32)) r0 8 (0 : Int32)) r0 9 (0 : Int32)) r0 10 (0 : Int32)) r0 11 (0 : Int32))) at18_43 rv18p_66 rfl h0 rfl).trans ((js1 at18_46 rfl rfl rfl).trans ((jsci at18_47 rfl rfl).trans ((jspI (H := (jm_pI (jm_pI (jm_pI (jm_pI (jm_pI (jm_pI (jm_pI (jm_pI H (jm_R H r0 2) 2 (0 : Int32)) (jm_R H r0 2) 3 (0 : Int32)) r0 4 (0 : Int32)) r0 8 (0 : Int32)) r0 9 (0 : Int32)) r0 10 (0 : Int32)) r0 11 (0 : Int32)) r0 3 (-1 : Int32))) at18_48 rv18p_60 rfl h0 rfl).trans ((js1 at18_51 rfl rfl rfl).trans ((jsci at18_52 rfl rfl).trans ((jspI (H := (jm_pI (jm_pI (jm_pI (jm_pI (jm_pI (jm_pI (jm_pI (jm_pI (jm_pI H (jm_R H r0 2) 2 (0 : Int32)) (jm_R H r0 2) 3 (0 : Int32)) r0 4 (0 : Int32)) r0 8 (0 : Int32)) r0 9 (0 : Int32)) r0 10 (0 : Int32)) r0 11 (0 : Int32)) r0 3 (-1 : Int32)) r0 12 (0 : Int32))) at18_53 rv18p_63 rfl h0 rfl).trans ((js1 at18_56 rfl rfl rfl).trans (jscall (H := (jm_pI (jm_pI (jm_pI (jm_pI (jm_pI (jm_pI (jm_pI (jm_pI (jm_pI (jm_pI H (jm_R H r0 2) 2 (0 : Int32)) (jm_R H r0 2) 3 (0 : Int32)) r0 4 (0 : Int32)) r0 8 (0 : Int32)) r0 9 (0 : Int32)) r0 10 (0 : Int32)) r0 11 (0 : Int32)) r0 3 (-1 : Int32)) r0 12 (0 : Int32)) r0 13 (-1 : Int32))) (as := [.ref r0]) (q := []) at18_57 rfl rv18i_87 (jscutV rfl rfl rfl (Nat.le_of_ble_eq_true rfl) rfl h0) rfl (Nat.le_of_ble_eq_true rfl) rfl rfl)))))))))))))))))))))))))))))))))
theorem at18_60 : jm_at 18 60 = some (.return_) := by decide +kernel
theorem u18_60 {S : Option (Nat × (Nat → Int32))} {H : jm_H} {Q : Option Value → jm_H → Prop} {r0 : Nat} : jm_w S 4 18 60 [.ref r0] [] H Q = Q none H := jsret_v at18_60 rfl
theorem en18 {S : Option (Nat × (Nat → Int32))} {H : jm_H} {Q : Option Value → jm_H → Prop} {r0 : Nat} : jm_c S 18 [.ref r0] H Q = jm_w S 4 18 0 [.ref r0] [] H Q := rfl
theorem at19_0 : jm_at 19 0 = some (.aload_n 0) := by decide +kernel
theorem at19_1 : jm_at 19 1 = some (.getfield 75) := by decide +kernel
theorem rv19g_75 : jm_rv 19 (.getfield 75) = (0, 1, 4, 0) := by decide +kernel
theorem at19_4 : jm_at 19 4 = some (.aload_n 0) := by decide +kernel
theorem at19_5 : jm_at 19 5 = some (.getfield 12) := by decide +kernel
theorem rv19g_12 : jm_rv 19 (.getfield 12) = (0, 1, 0, 0) := by decide +kernel
theorem at19_8 : jm_at 19 8 = some (.getfield 90) := by decide +kernel
theorem rv19g_90 : jm_rv 19 (.getfield 90) = (0, 8, 1, 0) := by decide +kernel
theorem at19_11 : jm_at 19 11 = some (.if_icmp .ge 33) := by decide +kernel
theorem u19_0 {S : Option (Nat × (Nat → Int32))} {H : jm_H} {Q : Option Value → jm_H → Prop} {r0 : Nat} (h0 : jm_tg H r0 = 2) (h1 : ¬ jm_R H r0 0 = 0) (h2 : jm_tg H (jm_R H r0 0) = 9) : jm_w S 3 19 0 [.ref r0, .null] [] H Q = if (jm_I H (jm_R H r0 0) 1) ≤ (jm_I H r0 4) then jm_w S 3 19 44 [.ref r0, .null] [] H Q else jm_w S 3 19 14 [.ref r0, .null] [] H Q := (js1 at19_0 rfl rfl rfl).trans ((jsgI (H := H) at19_1 rv19g_75 (Or.inl rfl) h0 rfl).trans ((js1 at19_4 rfl rfl rfl).trans ((jsgR (H := H) at19_5 rv19g_12 rfl h0 h1 rfl).trans ((jsgI (H := H) at19_8 rv19g_90 (Or.inl rfl) h2 rfl).trans (jsif (P := (jm_I H (jm_R H r0 0) 1) ≤ (jm_I H r0 4)) at19_11 rfl rfl)))))
theorem at19_14 : jm_at 19 14 = some (.aload_n 0) := by decide +kernel
theorem at19_15 : jm_at 19 15 = some (.getfield 12) := by decide +kernel
theorem at19_18 : jm_at 19 18 = some (.aload_n 0) := by decide +kernel
theorem at19_19 : jm_at 19 19 = some (.getfield 75) := by decide +kernel
theorem at19_22 : jm_at 19 22 = some (.invokevirtual 91) := by decide +kernel
theorem rv19i_91 : jm_rv 19 (.invokevirtual 91) = (2, 20, 0, 0) := by decide +kernel
theorem u19_14 {S : Option (Nat × (Nat → Int32))} {H : jm_H} {Q : Option Value → jm_H → Prop} {r0 : Nat} (h0 : jm_tg H r0 = 2) (h1 : ¬ jm_R H r0 0 = 0) (h2 : jm_tg H (jm_R H r0 0) = 9) : jm_w S 3 19 14 [.ref r0, .null] [] H Q = jm_c S 20 [.ref (jm_R H r0 0), .int (jm_I H r0 4)] H (fun v G => jm_w S 3 19 25 [.ref r0, .null] (v.toList ++ []) G Q) := (js1 at19_14 rfl rfl rfl).trans ((jsgR (H := H) at19_15 rv19g_12 rfl h0 h1 rfl).trans ((js1 at19_18 rfl rfl rfl).trans ((jsgI (H := H) at19_19 rv19g_75 (Or.inl rfl) h0 rfl).trans (jscall (H := H) (as := [.ref (jm_R H r0 0), .int (jm_I H r0 4)]) (q := []) at19_22 rfl rv19i_91 (jscutV rfl rfl rfl (Nat.le_of_ble_eq_true rfl) rfl h2) rfl (Nat.le_of_ble_eq_true rfl) rfl rfl))))
theorem at19_25 : jm_at 19 25 = some (.invokestatic 95) := by decide +kernel
theorem rv19i_95 : jm_rv 19 (.invokestatic 95) = (1, 21, 0, 0) := by decide +kernel
theorem u19_25 {S : Option (Nat × (Nat → Int32))} {H : jm_H} {Q : Option Value → jm_H → Prop} {r0 : Nat} {p0 : Int32} : jm_w S 3 19 25 [.ref r0, .null] [.int p0] H Q = jm_c S 21 [.int p0] H (fun v G => jm_w S 3 19 28 [.ref r0, .null] (v.toList ++ []) G Q) := jscall (H := H) (as := [.int p0]) (q := []) at19_25 rfl rv19i_95 (jscut rfl rfl rfl (Nat.le_of_ble_eq_true rfl)) rfl (Nat.le_of_ble_eq_true rfl) rfl rfl
theorem at19_28 : jm_at 19 28 = some (.ifCond .eq 16) := by decide +kernel
theorem u19_28 {S : Option (Nat × (Nat → Int32))} {H : jm_H} {Q : Option Value → jm_H → Prop} {r0 : Nat} {p0 : Int32} : jm_w S 3 19 28 [.ref r0, .null] [.int p0] H Q = if p0 = 0 then jm_w S 3 19 44 [.ref r0, .null] [] H Q else jm_w S 3 19 31 [.ref r0, .null] [] H Q := jsif (P := p0 = 0) at19_28 rfl rfl
theorem at19_31 : jm_at 19 31 = some (.aload_n 0) := by decide +kernel
theorem at19_32 : jm_at 19 32 = some (.dup) := by decide +kernel
theorem at19_33 : jm_at 19 33 = some (.getfield 75) := by decide +kernel
theorem at19_36 : jm_at 19 36 = some (.iconst 1) := by decide +kernel
theorem at19_37 : jm_at 19 37 = some (.iadd) := by decide +kernel
theorem at19_38 : jm_at 19 38 = some (.putfield 75) := by decide +kernel
theorem rv19p_75 : jm_rv 19 (.putfield 75) = (0, 1, 4, 0) := by decide +kernel
theorem at19_41 : jm_at 19 41 = some (.goto (-41)) := by decide +kernel
theorem u19_31 {S : Option (Nat × (Nat → Int32))} {H : jm_H} {Q : Option Value → jm_H → Prop} {r0 : Nat} (h0 : jm_tg H r0 = 2) : jm_w S 3 19 31 [.ref r0, .null] [] H Q = jm_w S 3 19 0 [.ref r0, .null] [] (jm_pI H r0 4 ((jm_I H r0 4) + (1 : Int32))) Q := (js1 at19_31 rfl rfl rfl).trans ((js0 at19_32 rfl rfl rfl).trans ((jsgI (H := H) at19_33 rv19g_75 (Or.inl rfl) h0 rfl).trans ((jsci at19_36 rfl rfl).trans ((js0 at19_37 rfl rfl rfl).trans ((jspI (H := H) at19_38 rv19p_75 rfl h0 rfl).trans (js2 at19_41 rfl rfl))))))
theorem at19_44 : jm_at 19 44 = some (.aload_n 0) := by decide +kernel
theorem at19_45 : jm_at 19 45 = some (.aload_n 0) := by decide +kernel
theorem at19_46 : jm_at 19 46 = some (.getfield 75) := by decide +kernel
theorem at19_49 : jm_at 19 49 = some (.putfield 98) := by decide +kernel
theorem rv19p_98 : jm_rv 19 (.putfield 98) = (0, 1, 6, 0) := by decide +kernel
theorem at19_52 : jm_at 19 52 = some (.aload_n 0) := by decide +kernel
theorem at19_53 : jm_at 19 53 = some (.getfield 12) := by decide +kernel
theorem at19_56 : jm_at 19 56 = some (.aload_n 0) := by decide +kernel
theorem at19_57 : jm_at 19 57 = some (.getfield 75) := by decide +kernel
theorem at19_60 : jm_at 19 60 = some (.invokevirtual 91) := by decide +kernel
theorem u19_44 {S : Option (Nat × (Nat → Int32))} {H : jm_H} {Q : Option Value → jm_H → Prop} {r0 : Nat} (h0 : jm_tg H r0 = 2) (h1 : ¬ jm_R H r0 0 = 0) (h2 : jm_tg H (jm_R H r0 0) = 9) : jm_w S 3 19 44 [.ref r0, .null] [] H Q = jm_c S 20 [.ref (jm_R H r0 0), .int (jm_I (jm_pI H r0 6 (jm_I H r0 4)) r0 4)] (jm_pI H r0 6 (jm_I H r0 4)) (fun v G => jm_w S 3 19 63 [.ref r0, .null] (v.toList ++ []) G Q) := (js1 at19_44 rfl rfl rfl).trans ((js1 at19_45 rfl rfl rfl).trans ((jsgI (H := H) at19_46 rv19g_75 (Or.inl rfl) h0 rfl).trans ((jspI (H := H) at19_49 rv19p_98 rfl h0 rfl).trans ((js1 at19_52 rfl rfl rfl).trans ((jsgR (H := (jm_pI H r0 6 (jm_I H r0 4))) at19_53 rv19g_12 rfl h0 h1 rfl).trans ((js1 at19_56 rfl rfl rfl).trans ((jsgI (H := (jm_pI H r0 6 (jm_I H r0 4))) at19_57 rv19g_75 (Or.inl rfl) h0 rfl).trans (jscall (H := (jm_pI H r0 6 (jm_I H r0 4))) (as := [.ref (jm_R H r0 0), .int (jm_I (jm_pI H r0 6 (jm_I H r0 4)) r0 4)]) (q := []) at19_60 rfl rv19i_91 (jscutV rfl rfl rfl (Nat.le_of_ble_eq_true rfl) rfl h2) rfl (Nat.le_of_ble_eq_true rfl) rfl rfl))))))))
theorem at19_63 : jm_at 19 63 = some (.istore_n 1) := by decide +kernel
theorem at19_64 : jm_at 19 64 = some (.aload_n 0) := by decide +kernel
theorem at19_65 : jm_at 19 65 = some (.getfield 75) := by decide +kernel
theorem at19_68 : jm_at 19 68 = some (.aload_n 0) := by decide +kernel
theorem at19_69 : jm_at 19 69 = some (.getfield 12) := by decide +kernel
theorem at19_72 : jm_at 19 72 = some (.getfield 90) := by decide +kernel
theorem at19_75 : jm_at 19 75 = some (.if_icmp .lt 11) := by decide +kernel
theorem u19_63 {S : Option (Nat × (Nat → Int32))} {H : jm_H} {Q : Option Value → jm_H → Prop} {r0 : Nat} {p0 : Int32} (h0 : jm_tg H r0 = 2) (h1 : ¬ jm_R H r0 0 = 0) (h2 : jm_tg H (jm_R H r0 0) = 9) : jm_w S 3 19 63 [.ref r0, .null] [.int p0] H Q = if (jm_I H r0 4) < (jm_I H (jm_R H r0 0) 1) then jm_w S 3 19 86 [.ref r0, .int p0] [] H Q else jm_w S 3 19 78 [.ref r0, .int p0] [] H Q := (js1 at19_63 rfl rfl rfl).trans ((js1 at19_64 rfl rfl rfl).trans ((jsgI (H := H) at19_65 rv19g_75 (Or.inl rfl) h0 rfl).trans ((js1 at19_68 rfl rfl rfl).trans ((jsgR (H := H) at19_69 rv19g_12 rfl h0 h1 rfl).trans ((jsgI (H := H) at19_72 rv19g_90 (Or.inl rfl) h2 rfl).trans (jsif (P := (jm_I H r0 4) < (jm_I H (jm_R H r0 0) 1)) at19_75 rfl rfl))))))
theorem at19_78 : jm_at 19 78 = some (.aload_n 0) := by decide +kernel
theorem at19_79 : jm_at 19 79 = some (.iconst 0) := by decide +kernel
theorem at19_80 : jm_at 19 80 = some (.putfield 47) := by decide +kernel
theorem rv19p_47 : jm_rv 19 (.putfield 47) = (0, 1, 5, 0) := by decide +kernel
theorem at19_83 : jm_at 19 83 = some (.goto 61) := by decide +kernel
theorem u19_78 {S : Option (Nat × (Nat → Int32))} {H : jm_H} {Q : Option Value → jm_H → Prop} {r0 : Nat} {x1 : Int32} (h0 : jm_tg H r0 = 2) : jm_w S 3 19 78 [.ref r0, .int x1] [] H Q = jm_w S 3 19 144 [.ref r0, .int x1] [] (jm_pI H r0 5 (0 : Int32)) Q := (js1 at19_78 rfl rfl rfl).trans ((jsci at19_79 rfl rfl).trans ((jspI (H := H) at19_80 rv19p_47 rfl h0 rfl).trans (js2 at19_83 rfl rfl)))
theorem at19_86 : jm_at 19 86 = some (.iload_n 1) := by decide +kernel
theorem at19_87 : jm_at 19 87 = some (.invokestatic 100) := by decide +kernel
theorem rv19i_100 : jm_rv 19 (.invokestatic 100) = (1, 22, 0, 0) := by decide +kernel
theorem u19_86 {S : Option (Nat × (Nat → Int32))} {H : jm_H} {Q : Option Value → jm_H → Prop} {r0 : Nat} {x1 : Int32} : jm_w S 3 19 86 [.ref r0, .int x1] [] H Q = jm_c S 22 [.int x1] H (fun v G => jm_w S 3 19 90 [.ref r0, .int x1] (v.toList ++ []) G Q) := (js1 at19_86 rfl rfl rfl).trans (jscall (H := H) (as := [.int x1]) (q := []) at19_87 rfl rv19i_100 (jscut rfl rfl rfl (Nat.le_of_ble_eq_true rfl)) rfl (Nat.le_of_ble_eq_true rfl) rfl rfl)
theorem at19_90 : jm_at 19 90 = some (.ifCond .eq 10) := by decide +kernel
theorem u19_90 {S : Option (Nat × (Nat → Int32))} {H : jm_H} {Q : Option Value → jm_H → Prop} {r0 : Nat} {x1 p0 : Int32} : jm_w S 3 19 90 [.ref r0, .int x1] [.int p0] H Q = if p0 = 0 then jm_w S 3 19 100 [.ref r0, .int x1] [] H Q else jm_w S 3 19 93 [.ref r0, .int x1] [] H Q := jsif (P := p0 = 0) at19_90 rfl rfl
theorem at19_93 : jm_at 19 93 = some (.aload_n 0) := by decide +kernel
theorem at19_94 : jm_at 19 94 = some (.invokevirtual 103) := by decide +kernel
theorem rv19i_103 : jm_rv 19 (.invokevirtual 103) = (2, 23, 0, 0) := by decide +kernel
theorem u19_93 {S : Option (Nat × (Nat → Int32))} {H : jm_H} {Q : Option Value → jm_H → Prop} {r0 : Nat} {x1 : Int32} (h0 : jm_tg H r0 = 2) : jm_w S 3 19 93 [.ref r0, .int x1] [] H Q = jm_c S 23 [.ref r0] H (fun v G => jm_w S 3 19 97 [.ref r0, .int x1] (v.toList ++ []) G Q) := (js1 at19_93 rfl rfl rfl).trans (jscall (H := H) (as := [.ref r0]) (q := []) at19_94 rfl rv19i_103 (jscutV rfl rfl rfl (Nat.le_of_ble_eq_true rfl) rfl h0) rfl (Nat.le_of_ble_eq_true rfl) rfl rfl)
theorem at19_97 : jm_at 19 97 = some (.goto 47) := by decide +kernel
theorem u19_97 {S : Option (Nat × (Nat → Int32))} {H : jm_H} {Q : Option Value → jm_H → Prop} {r0 : Nat} {x1 : Int32} : jm_w S 3 19 97 [.ref r0, .int x1] [] H Q = jm_w S 3 19 144 [.ref r0, .int x1] [] H Q := js2 at19_97 rfl rfl
theorem at19_100 : jm_at 19 100 = some (.iload_n 1) := by decide +kernel
theorem at19_101 : jm_at 19 101 = some (.invokestatic 106) := by decide +kernel
theorem rv19i_106 : jm_rv 19 (.invokestatic 106) = (1, 25, 0, 0) := by decide +kernel
theorem u19_100 {S : Option (Nat × (Nat → Int32))} {H : jm_H} {Q : Option Value → jm_H → Prop} {r0 : Nat} {x1 : Int32} : jm_w S 3 19 100 [.ref r0, .int x1] [] H Q = jm_c S 25 [.int x1] H (fun v G => jm_w S 3 19 104 [.ref r0, .int x1] (v.toList ++ []) G Q) := (js1 at19_100 rfl rfl rfl).trans (jscall (H := H) (as := [.int x1]) (q := []) at19_101 rfl rv19i_106 (jscut rfl rfl rfl (Nat.le_of_ble_eq_true rfl)) rfl (Nat.le_of_ble_eq_true rfl) rfl rfl)
theorem at19_104 : jm_at 19 104 = some (.ifCond .eq 10) := by decide +kernel
theorem u19_104 {S : Option (Nat × (Nat → Int32))} {H : jm_H} {Q : Option Value → jm_H → Prop} {r0 : Nat} {x1 p0 : Int32} : jm_w S 3 19 104 [.ref r0, .int x1] [.int p0] H Q = if p0 = 0 then jm_w S 3 19 114 [.ref r0, .int x1] [] H Q else jm_w S 3 19 107 [.ref r0, .int x1] [] H Q := jsif (P := p0 = 0) at19_104 rfl rfl
theorem at19_107 : jm_at 19 107 = some (.aload_n 0) := by decide +kernel
theorem at19_108 : jm_at 19 108 = some (.invokevirtual 109) := by decide +kernel
theorem rv19i_109 : jm_rv 19 (.invokevirtual 109) = (2, 26, 0, 0) := by decide +kernel
theorem u19_107 {S : Option (Nat × (Nat → Int32))} {H : jm_H} {Q : Option Value → jm_H → Prop} {r0 : Nat} {x1 : Int32} (h0 : jm_tg H r0 = 2) : jm_w S 3 19 107 [.ref r0, .int x1] [] H Q = jm_c S 26 [.ref r0] H (fun v G => jm_w S 3 19 111 [.ref r0, .int x1] (v.toList ++ []) G Q) := (js1 at19_107 rfl rfl rfl).trans (jscall (H := H) (as := [.ref r0]) (q := []) at19_108 rfl rv19i_109 (jscutV rfl rfl rfl (Nat.le_of_ble_eq_true rfl) rfl h0) rfl (Nat.le_of_ble_eq_true rfl) rfl rfl)
theorem at19_111 : jm_at 19 111 = some (.goto 33) := by decide +kernel
theorem u19_111 {S : Option (Nat × (Nat → Int32))} {H : jm_H} {Q : Option Value → jm_H → Prop} {r0 : Nat} {x1 : Int32} : jm_w S 3 19 111 [.ref r0, .int x1] [] H Q = jm_w S 3 19 144 [.ref r0, .int x1] [] H Q := js2 at19_111 rfl rfl
theorem at19_114 : jm_at 19 114 = some (.iload_n 1) := by decide +kernel
theorem at19_115 : jm_at 19 115 = some (.invokestatic 112) := by decide +kernel
theorem rv19i_112 : jm_rv 19 (.invokestatic 112) = (1, 27, 0, 0) := by decide +kernel
theorem u19_114 {S : Option (Nat × (Nat → Int32))} {H : jm_H} {Q : Option Value → jm_H → Prop} {r0 : Nat} {x1 : Int32} : jm_w S 3 19 114 [.ref r0, .int x1] [] H Q = jm_c S 27 [.int x1] H (fun v G => jm_w S 3 19 118 [.ref r0, .int x1] (v.toList ++ []) G Q) := (js1 at19_114 rfl rfl rfl).trans (jscall (H := H) (as := [.int x1]) (q := []) at19_115 rfl rv19i_112 (jscut rfl rfl rfl (Nat.le_of_ble_eq_true rfl)) rfl (Nat.le_of_ble_eq_true rfl) rfl rfl)
theorem at19_118 : jm_at 19 118 = some (.ifCond .eq 21) := by decide +kernel
theorem u19_118 {S : Option (Nat × (Nat → Int32))} {H : jm_H} {Q : Option Value → jm_H → Prop} {r0 : Nat} {x1 p0 : Int32} : jm_w S 3 19 118 [.ref r0, .int x1] [.int p0] H Q = if p0 = 0 then jm_w S 3 19 139 [.ref r0, .int x1] [] H Q else jm_w S 3 19 121 [.ref r0, .int x1] [] H Q := jsif (P := p0 = 0) at19_118 rfl rfl
theorem at19_121 : jm_at 19 121 = some (.aload_n 0) := by decide +kernel
theorem at19_122 : jm_at 19 122 = some (.iload_n 1) := by decide +kernel
theorem at19_123 : jm_at 19 123 = some (.putfield 47) := by decide +kernel
theorem at19_126 : jm_at 19 126 = some (.aload_n 0) := by decide +kernel
theorem at19_127 : jm_at 19 127 = some (.dup) := by decide +kernel
theorem at19_128 : jm_at 19 128 = some (.getfield 75) := by decide +kernel
theorem at19_131 : jm_at 19 131 = some (.iconst 1) := by decide +kernel
theorem at19_132 : jm_at 19 132 = some (.iadd) := by decide +kernel
theorem at19_133 : jm_at 19 133 = some (.putfield 75) := by decide +kernel
theorem at19_136 : jm_at 19 136 = some (.goto 8) := by decide +kernel
theorem u19_121 {S : Option (Nat × (Nat → Int32))} {H : jm_H} {Q : Option Value → jm_H → Prop} {r0 : Nat} {x1 : Int32} (h0 : jm_tg H r0 = 2) : jm_w S 3 19 121 [.ref r0, .int x1] [] H Q = jm_w S 3 19 144 [.ref r0, .int x1] [] (jm_pI (jm_pI H r0 5 x1) r0 4 ((jm_I (jm_pI H r0 5 x1) r0 4) + (1 : Int32))) Q := (js1 at19_121 rfl rfl rfl).trans ((js1 at19_122 rfl rfl rfl).trans ((jspI (H := H) at19_123 rv19p_47 rfl h0 rfl).trans ((js1 at19_126 rfl rfl rfl).trans ((js0 at19_127 rfl rfl rfl).trans ((jsgI (H := (jm_pI H r0 5 x1)) at19_128 rv19g_75 (Or.inl rfl) h0 rfl).trans ((jsci at19_131 rfl rfl).trans ((js0 at19_132 rfl rfl rfl).trans ((jspI (H := (jm_pI H r0 5 x1)) at19_133 rv19p_75 rfl h0 rfl).trans (js2 at19_136 rfl rfl)))))))))
theorem at19_139 : jm_at 19 139 = some (.aload_n 0) := by decide +kernel
theorem at19_140 : jm_at 19 140 = some (.iconst 1) := by decide +kernel
theorem at19_141 : jm_at 19 141 = some (.putfield 47) := by decide +kernel
theorem u19_139 {S : Option (Nat × (Nat → Int32))} {H : jm_H} {Q : Option Value → jm_H → Prop} {r0 : Nat} {x1 : Int32} (h0 : jm_tg H r0 = 2) : jm_w S 3 19 139 [.ref r0, .int x1] [] H Q = jm_w S 3 19 144 [.ref r0, .int x1] [] (jm_pI H r0 5 (1 : Int32)) Q := (js1 at19_139 rfl rfl rfl).trans ((jsci at19_140 rfl rfl).trans (jspI (H := H) at19_141 rv19p_47 rfl h0 rfl))
theorem at19_144 : jm_at 19 144 = some (.aload_n 0) := by decide +kernel
theorem at19_145 : jm_at 19 145 = some (.dup) := by decide +kernel
theorem at19_146 : jm_at 19 146 = some (.getfield 78) := by decide +kernel
theorem rv19g_78 : jm_rv 19 (.getfield 78) = (0, 1, 8, 0) := by decide +kernel
theorem at19_149 : jm_at 19 149 = some (.iconst 1) := by decide +kernel
theorem at19_150 : jm_at 19 150 = some (.iadd) := by decide +kernel
theorem at19_151 : jm_at 19 151 = some (.putfield 78) := by decide +kernel
theorem rv19p_78 : jm_rv 19 (.putfield 78) = (0, 1, 8, 0) := by decide +kernel
theorem at19_154 : jm_at 19 154 = some (.return_) := by decide +kernel
theorem u19_144 {S : Option (Nat × (Nat → Int32))} {H : jm_H} {Q : Option Value → jm_H → Prop} {r0 : Nat} {x1 : Int32} (h0 : jm_tg H r0 = 2) : jm_w S 3 19 144 [.ref r0, .int x1] [] H Q = Q none (jm_pI H r0 8 ((jm_I H r0 8) + (1 : Int32))) := (js1 at19_144 rfl rfl rfl).trans ((js0 at19_145 rfl rfl rfl).trans ((jsgI (H := H) at19_146 rv19g_78 (Or.inl rfl) h0 rfl).trans ((jsci at19_149 rfl rfl).trans ((js0 at19_150 rfl rfl rfl).trans ((jspI (H := H) at19_151 rv19p_78 rfl h0 rfl).trans (jsret_v at19_154 rfl))))))
theorem en19 {S : Option (Nat × (Nat → Int32))} {H : jm_H} {Q : Option Value → jm_H → Prop} {r0 : Nat} : jm_c S 19 [.ref r0] H Q = jm_w S 3 19 0 [.ref r0, .null] [] H Q := rfl
theorem at21_0 : jm_at 21 0 = some (.iload_n 0) := by decide +kernel
theorem at21_1 : jm_at 21 1 = some (.bipush 9) := by decide +kernel
theorem at21_3 : jm_at 21 3 = some (.if_icmp .eq 21) := by decide +kernel
theorem u21_0 {S : Option (Nat × (Nat → Int32))} {H : jm_H} {Q : Option Value → jm_H → Prop} {x0 : Int32} : jm_w S 1 21 0 [.int x0] [] H Q = if x0 = (9 : Int32) then jm_w S 1 21 24 [.int x0] [] H Q else jm_w S 1 21 6 [.int x0] [] H Q := (js1 at21_0 rfl rfl rfl).trans ((jscb at21_1 rfl rfl).trans (jsif (P := x0 = (9 : Int32)) at21_3 rfl rfl))
theorem at21_6 : jm_at 21 6 = some (.iload_n 0) := by decide +kernel
theorem at21_7 : jm_at 21 7 = some (.bipush 10) := by decide +kernel
theorem at21_9 : jm_at 21 9 = some (.if_icmp .eq 15) := by decide +kernel
theorem u21_6 {S : Option (Nat × (Nat → Int32))} {H : jm_H} {Q : Option Value → jm_H → Prop} {x0 : Int32} : jm_w S 1 21 6 [.int x0] [] H Q = if x0 = (10 : Int32) then jm_w S 1 21 24 [.int x0] [] H Q else jm_w S 1 21 12 [.int x0] [] H Q := (js1 at21_6 rfl rfl rfl).trans ((jscb at21_7 rfl rfl).trans (jsif (P := x0 = (10 : Int32)) at21_9 rfl rfl))
theorem at21_12 : jm_at 21 12 = some (.iload_n 0) := by decide +kernel
theorem at21_13 : jm_at 21 13 = some (.bipush 13) := by decide +kernel
theorem at21_15 : jm_at 21 15 = some (.if_icmp .eq 9) := by decide +kernel
theorem u21_12 {S : Option (Nat × (Nat → Int32))} {H : jm_H} {Q : Option Value → jm_H → Prop} {x0 : Int32} : jm_w S 1 21 12 [.int x0] [] H Q = if x0 = (13 : Int32) then jm_w S 1 21 24 [.int x0] [] H Q else jm_w S 1 21 18 [.int x0] [] H Q := (js1 at21_12 rfl rfl rfl).trans ((jscb at21_13 rfl rfl).trans (jsif (P := x0 = (13 : Int32)) at21_15 rfl rfl))
theorem at21_18 : jm_at 21 18 = some (.iload_n 0) := by decide +kernel
theorem at21_19 : jm_at 21 19 = some (.bipush 32) := by decide +kernel
theorem at21_21 : jm_at 21 21 = some (.if_icmp .ne 7) := by decide +kernel
theorem u21_18 {S : Option (Nat × (Nat → Int32))} {H : jm_H} {Q : Option Value → jm_H → Prop} {x0 : Int32} : jm_w S 1 21 18 [.int x0] [] H Q = if ¬ x0 = (32 : Int32) then jm_w S 1 21 28 [.int x0] [] H Q else jm_w S 1 21 24 [.int x0] [] H Q := (js1 at21_18 rfl rfl rfl).trans ((jscb at21_19 rfl rfl).trans (jsif (P := ¬ x0 = (32 : Int32)) at21_21 rfl rfl))
theorem at21_24 : jm_at 21 24 = some (.iconst 1) := by decide +kernel
theorem at21_25 : jm_at 21 25 = some (.goto 4) := by decide +kernel
theorem u21_24 {S : Option (Nat × (Nat → Int32))} {H : jm_H} {Q : Option Value → jm_H → Prop} {x0 : Int32} : jm_w S 1 21 24 [.int x0] [] H Q = jm_w S 1 21 29 [.int x0] [.int (1 : Int32)] H Q := (jsci at21_24 rfl rfl).trans (js2 at21_25 rfl rfl)
theorem at21_28 : jm_at 21 28 = some (.iconst 0) := by decide +kernel
theorem u21_28 {S : Option (Nat × (Nat → Int32))} {H : jm_H} {Q : Option Value → jm_H → Prop} {x0 : Int32} : jm_w S 1 21 28 [.int x0] [] H Q = jm_w S 1 21 29 [.int x0] [.int (0 : Int32)] H Q := jsci at21_28 rfl rfl
theorem at21_29 : jm_at 21 29 = some (.ireturn) := by decide +kernel
theorem u21_29 {S : Option (Nat × (Nat → Int32))} {H : jm_H} {Q : Option Value → jm_H → Prop} {x0 p0 : Int32} (h0 : p0 = 0 ∨ p0 = 1) : jm_w S 1 21 29 [.int x0] [.int p0] H Q = Q (some (.int p0)) H := jsret_z at21_29 rfl h0
theorem en21 {S : Option (Nat × (Nat → Int32))} {H : jm_H} {Q : Option Value → jm_H → Prop} {x0 : Int32} : jm_c S 21 [.int x0] H Q = jm_w S 1 21 0 [.int x0] [] H Q := rfl
theorem at22_0 : jm_at 22 0 = some (.iload_n 0) := by decide +kernel
theorem at22_1 : jm_at 22 1 = some (.bipush 97) := by decide +kernel
theorem at22_3 : jm_at 22 3 = some (.if_icmp .lt 13) := by decide +kernel
theorem u22_0 {S : Option (Nat × (Nat → Int32))} {H : jm_H} {Q : Option Value → jm_H → Prop} {x0 : Int32} : jm_w S 1 22 0 [.int x0] [] H Q = if x0 < (97 : Int32) then jm_w S 1 22 16 [.int x0] [] H Q else jm_w S 1 22 6 [.int x0] [] H Q := (js1 at22_0 rfl rfl rfl).trans ((jscb at22_1 rfl rfl).trans (jsif (P := x0 < (97 : Int32)) at22_3 rfl rfl))
theorem at22_6 : jm_at 22 6 = some (.iload_n 0) := by decide +kernel
theorem at22_7 : jm_at 22 7 = some (.bipush 122) := by decide +kernel
theorem at22_9 : jm_at 22 9 = some (.if_icmp .gt 7) := by decide +kernel
theorem u22_6 {S : Option (Nat × (Nat → Int32))} {H : jm_H} {Q : Option Value → jm_H → Prop} {x0 : Int32} : jm_w S 1 22 6 [.int x0] [] H Q = if (122 : Int32) < x0 then jm_w S 1 22 16 [.int x0] [] H Q else jm_w S 1 22 12 [.int x0] [] H Q := (js1 at22_6 rfl rfl rfl).trans ((jscb at22_7 rfl rfl).trans (jsif (P := (122 : Int32) < x0) at22_9 rfl rfl))
theorem at22_12 : jm_at 22 12 = some (.iconst 1) := by decide +kernel
theorem at22_13 : jm_at 22 13 = some (.goto 4) := by decide +kernel
theorem u22_12 {S : Option (Nat × (Nat → Int32))} {H : jm_H} {Q : Option Value → jm_H → Prop} {x0 : Int32} : jm_w S 1 22 12 [.int x0] [] H Q = jm_w S 1 22 17 [.int x0] [.int (1 : Int32)] H Q := (jsci at22_12 rfl rfl).trans (js2 at22_13 rfl rfl)
theorem at22_16 : jm_at 22 16 = some (.iconst 0) := by decide +kernel
theorem u22_16 {S : Option (Nat × (Nat → Int32))} {H : jm_H} {Q : Option Value → jm_H → Prop} {x0 : Int32} : jm_w S 1 22 16 [.int x0] [] H Q = jm_w S 1 22 17 [.int x0] [.int (0 : Int32)] H Q := jsci at22_16 rfl rfl
theorem at22_17 : jm_at 22 17 = some (.ireturn) := by decide +kernel
theorem u22_17 {S : Option (Nat × (Nat → Int32))} {H : jm_H} {Q : Option Value → jm_H → Prop} {x0 p0 : Int32} (h0 : p0 = 0 ∨ p0 = 1) : jm_w S 1 22 17 [.int x0] [.int p0] H Q = Q (some (.int p0)) H := jsret_z at22_17 rfl h0
theorem en22 {S : Option (Nat × (Nat → Int32))} {H : jm_H} {Q : Option Value → jm_H → Prop} {x0 : Int32} : jm_c S 22 [.int x0] H Q = jm_w S 1 22 0 [.int x0] [] H Q := rfl
theorem at23_0 : jm_at 23 0 = some (.aload_n 0) := by decide +kernel
theorem at23_1 : jm_at 23 1 = some (.lconst 0) := by decide +kernel
theorem at23_2 : jm_at 23 2 = some (.putfield 115) := by decide +kernel
theorem rv23p_115 : jm_rv 23 (.putfield 115) = (0, 1, 7, 0) := by decide +kernel
theorem u23_0 {S : Option (Nat × (Nat → Int32))} {H : jm_H} {Q : Option Value → jm_H → Prop} {r0 : Nat} (h0 : jm_tg H r0 = 2) : jm_w S 2 23 0 [.ref r0] [] H Q = jm_w S 2 23 5 [.ref r0] [] (jm_pL H r0 7 (0 : Int64)) Q := (js1 at23_0 rfl rfl rfl).trans ((jscl at23_1 rfl rfl).trans (jspL (H := H) at23_2 rv23p_115 rfl h0 rfl))
theorem at23_5 : jm_at 23 5 = some (.aload_n 0) := by decide +kernel
theorem at23_6 : jm_at 23 6 = some (.getfield 75) := by decide +kernel
theorem rv23g_75 : jm_rv 23 (.getfield 75) = (0, 1, 4, 0) := by decide +kernel
theorem at23_9 : jm_at 23 9 = some (.aload_n 0) := by decide +kernel
theorem at23_10 : jm_at 23 10 = some (.getfield 12) := by decide +kernel
theorem rv23g_12 : jm_rv 23 (.getfield 12) = (0, 1, 0, 0) := by decide +kernel
theorem at23_13 : jm_at 23 13 = some (.getfield 90) := by decide +kernel
theorem rv23g_90 : jm_rv 23 (.getfield 90) = (0, 8, 1, 0) := by decide +kernel
theorem at23_16 : jm_at 23 16 = some (.if_icmp .ge 64) := by decide +kernel
theorem u23_5 {S : Option (Nat × (Nat → Int32))} {H : jm_H} {Q : Option Value → jm_H → Prop} {r0 : Nat} (h0 : jm_tg H r0 = 2) (h1 : ¬ jm_R H r0 0 = 0) (h2 : jm_tg H (jm_R H r0 0) = 9) : jm_w S 2 23 5 [.ref r0] [] H Q = if (jm_I H (jm_R H r0 0) 1) ≤ (jm_I H r0 4) then jm_w S 2 23 80 [.ref r0] [] H Q else jm_w S 2 23 19 [.ref r0] [] H Q := (js1 at23_5 rfl rfl rfl).trans ((jsgI (H := H) at23_6 rv23g_75 (Or.inl rfl) h0 rfl).trans ((js1 at23_9 rfl rfl rfl).trans ((jsgR (H := H) at23_10 rv23g_12 rfl h0 h1 rfl).trans ((jsgI (H := H) at23_13 rv23g_90 (Or.inl rfl) h2 rfl).trans (jsif (P := (jm_I H (jm_R H r0 0) 1) ≤ (jm_I H r0 4)) at23_16 rfl rfl)))))
theorem at23_19 : jm_at 23 19 = some (.aload_n 0) := by decide +kernel
theorem at23_20 : jm_at 23 20 = some (.getfield 12) := by decide +kernel
theorem at23_23 : jm_at 23 23 = some (.aload_n 0) := by decide +kernel
theorem at23_24 : jm_at 23 24 = some (.getfield 75) := by decide +kernel
theorem at23_27 : jm_at 23 27 = some (.invokevirtual 91) := by decide +kernel
theorem rv23i_91 : jm_rv 23 (.invokevirtual 91) = (2, 20, 0, 0) := by decide +kernel
theorem u23_19 {S : Option (Nat × (Nat → Int32))} {H : jm_H} {Q : Option Value → jm_H → Prop} {r0 : Nat} (h0 : jm_tg H r0 = 2) (h1 : ¬ jm_R H r0 0 = 0) (h2 : jm_tg H (jm_R H r0 0) = 9) : jm_w S 2 23 19 [.ref r0] [] H Q = jm_c S 20 [.ref (jm_R H r0 0), .int (jm_I H r0 4)] H (fun v G => jm_w S 2 23 30 [.ref r0] (v.toList ++ []) G Q) := (js1 at23_19 rfl rfl rfl).trans ((jsgR (H := H) at23_20 rv23g_12 rfl h0 h1 rfl).trans ((js1 at23_23 rfl rfl rfl).trans ((jsgI (H := H) at23_24 rv23g_75 (Or.inl rfl) h0 rfl).trans (jscall (H := H) (as := [.ref (jm_R H r0 0), .int (jm_I H r0 4)]) (q := []) at23_27 rfl rv23i_91 (jscutV rfl rfl rfl (Nat.le_of_ble_eq_true rfl) rfl h2) rfl (Nat.le_of_ble_eq_true rfl) rfl rfl))))
theorem at23_30 : jm_at 23 30 = some (.invokestatic 100) := by decide +kernel
theorem rv23i_100 : jm_rv 23 (.invokestatic 100) = (1, 22, 0, 0) := by decide +kernel
theorem u23_30 {S : Option (Nat × (Nat → Int32))} {H : jm_H} {Q : Option Value → jm_H → Prop} {r0 : Nat} {p0 : Int32} : jm_w S 2 23 30 [.ref r0] [.int p0] H Q = jm_c S 22 [.int p0] H (fun v G => jm_w S 2 23 33 [.ref r0] (v.toList ++ []) G Q) := jscall (H := H) (as := [.int p0]) (q := []) at23_30 rfl rv23i_100 (jscut rfl rfl rfl (Nat.le_of_ble_eq_true rfl)) rfl (Nat.le_of_ble_eq_true rfl) rfl rfl
theorem at23_33 : jm_at 23 33 = some (.ifCond .eq 47) := by decide +kernel
theorem u23_33 {S : Option (Nat × (Nat → Int32))} {H : jm_H} {Q : Option Value → jm_H → Prop} {r0 : Nat} {p0 : Int32} : jm_w S 2 23 33 [.ref r0] [.int p0] H Q = if p0 = 0 then jm_w S 2 23 80 [.ref r0] [] H Q else jm_w S 2 23 36 [.ref r0] [] H Q := jsif (P := p0 = 0) at23_33 rfl rfl
theorem at23_36 : jm_at 23 36 = some (.aload_n 0) := by decide +kernel
theorem at23_37 : jm_at 23 37 = some (.aload_n 0) := by decide +kernel
theorem at23_38 : jm_at 23 38 = some (.getfield 115) := by decide +kernel
theorem rv23g_115 : jm_rv 23 (.getfield 115) = (0, 1, 7, 0) := by decide +kernel
theorem at23_41 : jm_at 23 41 = some (.ldc2_w 119) := by decide +kernel
theorem rv23l_119 : jm_rv 23 (.ldc2_w 119) = (9, 0, 0, 32) := by decide +kernel
theorem at23_44 : jm_at 23 44 = some (.lmul) := by decide +kernel
theorem at23_45 : jm_at 23 45 = some (.aload_n 0) := by decide +kernel
theorem at23_46 : jm_at 23 46 = some (.getfield 12) := by decide +kernel
theorem at23_49 : jm_at 23 49 = some (.aload_n 0) := by decide +kernel
theorem at23_50 : jm_at 23 50 = some (.getfield 75) := by decide +kernel
theorem at23_53 : jm_at 23 53 = some (.invokevirtual 91) := by decide +kernel
theorem u23_36 {S : Option (Nat × (Nat → Int32))} {H : jm_H} {Q : Option Value → jm_H → Prop} {r0 : Nat} (h0 : jm_tg H r0 = 2) (h1 : ¬ jm_R H r0 0 = 0) (h2 : jm_tg H (jm_R H r0 0) = 9) : jm_w S 2 23 36 [.ref r0] [] H Q = jm_c S 20 [.ref (jm_R H r0 0), .int (jm_I H r0 4)] H (fun v G => jm_w S 2 23 56 [.ref r0] (v.toList ++ [.long ((jm_L H r0 7) * (32 : Int64)), .ref r0]) G Q) := (js1 at23_36 rfl rfl rfl).trans ((js1 at23_37 rfl rfl rfl).trans ((jsgL (H := H) at23_38 rv23g_115 rfl h0 rfl).trans ((jsk2 at23_41 rv23l_119 rfl rfl).trans ((js0 at23_44 rfl rfl rfl).trans ((js1 at23_45 rfl rfl rfl).trans ((jsgR (H := H) at23_46 rv23g_12 rfl h0 h1 rfl).trans ((js1 at23_49 rfl rfl rfl).trans ((jsgI (H := H) at23_50 rv23g_75 (Or.inl rfl) h0 rfl).trans (jscall (H := H) (as := [.ref (jm_R H r0 0), .int (jm_I H r0 4)]) (q := [.long ((jm_L H r0 7) * (32 : Int64)), .ref r0]) at23_53 rfl rv23i_91 (jscutV rfl rfl rfl (Nat.le_of_ble_eq_true rfl) rfl h2) rfl (Nat.le_of_ble_eq_true rfl) rfl rfl)))))))))
theorem at23_56 : jm_at 23 56 = some (.i2l) := by decide +kernel
theorem at23_57 : jm_at 23 57 = some (.ladd) := by decide +kernel
theorem at23_58 : jm_at 23 58 = some (.ldc2_w 121) := by decide +kernel
theorem rv23l_121 : jm_rv 23 (.ldc2_w 121) = (9, 0, 0, 97) := by decide +kernel
theorem at23_61 : jm_at 23 61 = some (.lsub) := by decide +kernel
theorem at23_62 : jm_at 23 62 = some (.lconst 1) := by decide +kernel
theorem at23_63 : jm_at 23 63 = some (.ladd) := by decide +kernel
theorem at23_64 : jm_at 23 64 = some (.putfield 115) := by decide +kernel
theorem at23_67 : jm_at 23 67 = some (.aload_n 0) := by decide +kernel
theorem at23_68 : jm_at 23 68 = some (.dup) := by decide +kernel
theorem at23_69 : jm_at 23 69 = some (.getfield 75) := by decide +kernel
theorem at23_72 : jm_at 23 72 = some (.iconst 1) := by decide +kernel
theorem at23_73 : jm_at 23 73 = some (.iadd) := by decide +kernel
theorem at23_74 : jm_at 23 74 = some (.putfield 75) := by decide +kernel
theorem rv23p_75 : jm_rv 23 (.putfield 75) = (0, 1, 4, 0) := by decide +kernel
theorem at23_77 : jm_at 23 77 = some (.goto (-72)) := by decide +kernel
theorem u23_56 {S : Option (Nat × (Nat → Int32))} {H : jm_H} {Q : Option Value → jm_H → Prop} {r0 o0 : Nat} {q1 : Int64} {p2 : Int32} (h0 : jm_tg H o0 = 2) (h1 : jm_tg H r0 = 2) : jm_w S 2 23 56 [.ref r0] [.int p2, .long q1, .ref o0] H Q = jm_w S 2 23 5 [.ref r0] [] (jm_pI (jm_pL H o0 7 (((q1 + (Int32.toInt64 p2)) - (97 : Int64)) + (1 : Int64))) r0 4 ((jm_I H r0 4) + (1 : Int32))) Q := (js0 at23_56 rfl rfl rfl).trans ((js0 at23_57 rfl rfl rfl).trans ((jsk2 at23_58 rv23l_121 rfl rfl).trans ((js0 at23_61 rfl rfl rfl).trans ((jscl at23_62 rfl rfl).trans ((js0 at23_63 rfl rfl rfl).trans ((jspL (H := H) at23_64 rv23p_115 rfl h0 rfl).trans ((js1 at23_67 rfl rfl rfl).trans ((js0 at23_68 rfl rfl rfl).trans ((jsgI (H := (jm_pL H o0 7 (((q1 + (Int32.toInt64 p2)) - (97 : Int64)) + (1 : Int64)))) at23_69 rv23g_75 (Or.inl rfl) h1 rfl).trans ((jsci at23_72 rfl rfl).trans ((js0 at23_73 rfl rfl rfl).trans ((jspI (H := (jm_pL H o0 7 (((q1 + (Int32.toInt64 p2)) - (97 : Int64)) + (1 : Int64)))) at23_74 rv23p_75 rfl h1 rfl).trans (js2 at23_77 rfl rfl)))))))))))))
theorem at23_80 : jm_at 23 80 = some (.aload_n 0) := by decide +kernel
theorem at23_81 : jm_at 23 81 = some (.aload_n 0) := by decide +kernel
theorem at23_82 : jm_at 23 82 = some (.getfield 75) := by decide +kernel
theorem at23_85 : jm_at 23 85 = some (.aload_n 0) := by decide +kernel
theorem at23_86 : jm_at 23 86 = some (.getfield 98) := by decide +kernel
theorem rv23g_98 : jm_rv 23 (.getfield 98) = (0, 1, 6, 0) := by decide +kernel
theorem at23_89 : jm_at 23 89 = some (.isub) := by decide +kernel
theorem at23_90 : jm_at 23 90 = some (.bipush 8) := by decide +kernel
theorem at23_92 : jm_at 23 92 = some (.if_icmp .le 7) := by decide +kernel
theorem u23_80 {S : Option (Nat × (Nat → Int32))} {H : jm_H} {Q : Option Value → jm_H → Prop} {r0 : Nat} (h0 : jm_tg H r0 = 2) : jm_w S 2 23 80 [.ref r0] [] H Q = if ((jm_I H r0 4) - (jm_I H r0 6)) ≤ (8 : Int32) then jm_w S 2 23 99 [.ref r0] [.ref r0] H Q else jm_w S 2 23 95 [.ref r0] [.ref r0] H Q := (js1 at23_80 rfl rfl rfl).trans ((js1 at23_81 rfl rfl rfl).trans ((jsgI (H := H) at23_82 rv23g_75 (Or.inl rfl) h0 rfl).trans ((js1 at23_85 rfl rfl rfl).trans ((jsgI (H := H) at23_86 rv23g_98 (Or.inl rfl) h0 rfl).trans ((js0 at23_89 rfl rfl rfl).trans ((jscb at23_90 rfl rfl).trans (jsif (P := ((jm_I H r0 4) - (jm_I H r0 6)) ≤ (8 : Int32)) at23_92 rfl rfl)))))))
theorem at23_95 : jm_at 23 95 = some (.iconst 1) := by decide +kernel
theorem at23_96 : jm_at 23 96 = some (.goto 10) := by decide +kernel
theorem u23_95 {S : Option (Nat × (Nat → Int32))} {H : jm_H} {Q : Option Value → jm_H → Prop} {r0 o0 : Nat} : jm_w S 2 23 95 [.ref r0] [.ref o0] H Q = jm_w S 2 23 106 [.ref r0] [.int (1 : Int32), .ref o0] H Q := (jsci at23_95 rfl rfl).trans (js2 at23_96 rfl rfl)
theorem at23_99 : jm_at 23 99 = some (.aload_n 0) := by decide +kernel
theorem at23_100 : jm_at 23 100 = some (.getfield 115) := by decide +kernel
theorem at23_103 : jm_at 23 103 = some (.invokestatic 123) := by decide +kernel
theorem rv23i_123 : jm_rv 23 (.invokestatic 123) = (1, 24, 0, 0) := by decide +kernel
theorem u23_99 {S : Option (Nat × (Nat → Int32))} {H : jm_H} {Q : Option Value → jm_H → Prop} {r0 o0 : Nat} (h0 : jm_tg H r0 = 2) : jm_w S 2 23 99 [.ref r0] [.ref o0] H Q = jm_c S 24 [.long (jm_L H r0 7)] H (fun v G => jm_w S 2 23 106 [.ref r0] (v.toList ++ [.ref o0]) G Q) := (js1 at23_99 rfl rfl rfl).trans ((jsgL (H := H) at23_100 rv23g_115 rfl h0 rfl).trans (jscall (H := H) (as := [.long (jm_L H r0 7)]) (q := [.ref o0]) at23_103 rfl rv23i_123 (jscut rfl rfl rfl (Nat.le_of_ble_eq_true rfl)) rfl (Nat.le_of_ble_eq_true rfl) rfl rfl))
theorem at23_106 : jm_at 23 106 = some (.putfield 47) := by decide +kernel
theorem rv23p_47 : jm_rv 23 (.putfield 47) = (0, 1, 5, 0) := by decide +kernel
theorem at23_109 : jm_at 23 109 = some (.return_) := by decide +kernel
theorem u23_106 {S : Option (Nat × (Nat → Int32))} {H : jm_H} {Q : Option Value → jm_H → Prop} {r0 o0 : Nat} {p1 : Int32} (h0 : jm_tg H o0 = 2) : jm_w S 2 23 106 [.ref r0] [.int p1, .ref o0] H Q = Q none (jm_pI H o0 5 p1) := (jspI (H := H) at23_106 rv23p_47 rfl h0 rfl).trans (jsret_v at23_109 rfl)
theorem en23 {S : Option (Nat × (Nat → Int32))} {H : jm_H} {Q : Option Value → jm_H → Prop} {r0 : Nat} : jm_c S 23 [.ref r0] H Q = jm_w S 2 23 0 [.ref r0] [] H Q := rfl
theorem at24_0 : jm_at 24 0 = some (.lload_n 0) := by decide +kernel
theorem at24_1 : jm_at 24 1 = some (.ldc2_w 131) := by decide +kernel
theorem rv24l_131 : jm_rv 24 (.ldc2_w 131) = (9, 0, 0, 632645) := by decide +kernel
theorem at24_4 : jm_at 24 4 = some (.lcmp) := by decide +kernel
theorem at24_5 : jm_at 24 5 = some (.ifCond .ne 5) := by decide +kernel
theorem u24_0 {S : Option (Nat × (Nat → Int32))} {H : jm_H} {Q : Option Value → jm_H → Prop} {y0 : Int64} : jm_w S 1 24 0 [.long y0, .null] [] H Q = if ¬ (lg_cmp y0 (632645 : Int64)) = 0 then jm_w S 1 24 10 [.long y0, .null] [] H Q else jm_w S 1 24 8 [.long y0, .null] [] H Q := (js1 at24_0 rfl rfl rfl).trans ((jsk2 at24_1 rv24l_131 rfl rfl).trans ((js0 at24_4 rfl rfl rfl).trans (jsif (P := ¬ (lg_cmp y0 (632645 : Int64)) = 0) at24_5 rfl rfl)))
theorem at24_8 : jm_at 24 8 = some (.iconst 4) := by decide +kernel
theorem at24_9 : jm_at 24 9 = some (.ireturn) := by decide +kernel
theorem u24_8 {S : Option (Nat × (Nat → Int32))} {H : jm_H} {Q : Option Value → jm_H → Prop} {y0 : Int64} : jm_w S 1 24 8 [.long y0, .null] [] H Q = Q (some (.int (4 : Int32))) H := (jsci at24_8 rfl rfl).trans (jsret_i at24_9 rfl)
theorem at24_10 : jm_at 24 10 = some (.lload_n 0) := by decide +kernel
theorem at24_11 : jm_at 24 11 = some (.ldc2_w 133) := by decide +kernel
theorem rv24l_133 : jm_rv 24 (.ldc2_w 133) = (9, 0, 0, 12468) := by decide +kernel
theorem at24_14 : jm_at 24 14 = some (.lcmp) := by decide +kernel
theorem at24_15 : jm_at 24 15 = some (.ifCond .ne 5) := by decide +kernel
theorem u24_10 {S : Option (Nat × (Nat → Int32))} {H : jm_H} {Q : Option Value → jm_H → Prop} {y0 : Int64} : jm_w S 1 24 10 [.long y0, .null] [] H Q = if ¬ (lg_cmp y0 (12468 : Int64)) = 0 then jm_w S 1 24 20 [.long y0, .null] [] H Q else jm_w S 1 24 18 [.long y0, .null] [] H Q := (js1 at24_10 rfl rfl rfl).trans ((jsk2 at24_11 rv24l_133 rfl rfl).trans ((js0 at24_14 rfl rfl rfl).trans (jsif (P := ¬ (lg_cmp y0 (12468 : Int64)) = 0) at24_15 rfl rfl)))
theorem at24_18 : jm_at 24 18 = some (.iconst 5) := by decide +kernel
theorem at24_19 : jm_at 24 19 = some (.ireturn) := by decide +kernel
theorem u24_18 {S : Option (Nat × (Nat → Int32))} {H : jm_H} {Q : Option Value → jm_H → Prop} {y0 : Int64} : jm_w S 1 24 18 [.long y0, .null] [] H Q = Q (some (.int (5 : Int32))) H := (jsci at24_18 rfl rfl).trans (jsret_i at24_19 rfl)
theorem at24_20 : jm_at 24 20 = some (.lload_n 0) := by decide +kernel
theorem at24_21 : jm_at 24 21 = some (.ldc2_w 135) := by decide +kernel
theorem rv24l_135 : jm_rv 24 (.ldc2_w 135) = (9, 0, 0, 605684) := by decide +kernel
theorem at24_24 : jm_at 24 24 = some (.lcmp) := by decide +kernel
theorem at24_25 : jm_at 24 25 = some (.ifCond .ne 6) := by decide +kernel
theorem u24_20 {S : Option (Nat × (Nat → Int32))} {H : jm_H} {Q : Option Value → jm_H → Prop} {y0 : Int64} : jm_w S 1 24 20 [.long y0, .null] [] H Q = if ¬ (lg_cmp y0 (605684 : Int64)) = 0 then jm_w S 1 24 31 [.long y0, .null] [] H Q else jm_w S 1 24 28 [.long y0, .null] [] H Q := (js1 at24_20 rfl rfl rfl).trans ((jsk2 at24_21 rv24l_135 rfl rfl).trans ((js0 at24_24 rfl rfl rfl).trans (jsif (P := ¬ (lg_cmp y0 (605684 : Int64)) = 0) at24_25 rfl rfl)))
theorem at24_28 : jm_at 24 28 = some (.bipush 6) := by decide +kernel
theorem at24_30 : jm_at 24 30 = some (.ireturn) := by decide +kernel
theorem u24_28 {S : Option (Nat × (Nat → Int32))} {H : jm_H} {Q : Option Value → jm_H → Prop} {y0 : Int64} : jm_w S 1 24 28 [.long y0, .null] [] H Q = Q (some (.int (6 : Int32))) H := (jscb at24_28 rfl rfl).trans (jsret_i at24_30 rfl)
theorem at24_31 : jm_at 24 31 = some (.lload_n 0) := by decide +kernel
theorem at24_32 : jm_at 24 32 = some (.ldc2_w 137) := by decide +kernel
theorem rv24l_137 : jm_rv 24 (.ldc2_w 137) = (9, 0, 0, 20141) := by decide +kernel
theorem at24_35 : jm_at 24 35 = some (.lcmp) := by decide +kernel
theorem at24_36 : jm_at 24 36 = some (.ifCond .ne 8) := by decide +kernel
theorem u24_31 {S : Option (Nat × (Nat → Int32))} {H : jm_H} {Q : Option Value → jm_H → Prop} {y0 : Int64} : jm_w S 1 24 31 [.long y0, .null] [] H Q = if ¬ (lg_cmp y0 (20141 : Int64)) = 0 then jm_w S 1 24 44 [.long y0, .null] [] H Q else jm_w S 1 24 39 [.long y0, .null] [] H Q := (js1 at24_31 rfl rfl rfl).trans ((jsk2 at24_32 rv24l_137 rfl rfl).trans ((js0 at24_35 rfl rfl rfl).trans (jsif (P := ¬ (lg_cmp y0 (20141 : Int64)) = 0) at24_36 rfl rfl)))
theorem at24_39 : jm_at 24 39 = some (.bipush 7) := by decide +kernel
theorem at24_41 : jm_at 24 41 = some (.goto 4) := by decide +kernel
theorem u24_39 {S : Option (Nat × (Nat → Int32))} {H : jm_H} {Q : Option Value → jm_H → Prop} {y0 : Int64} : jm_w S 1 24 39 [.long y0, .null] [] H Q = jm_w S 1 24 45 [.long y0, .null] [.int (7 : Int32)] H Q := (jscb at24_39 rfl rfl).trans (js2 at24_41 rfl rfl)
theorem at24_44 : jm_at 24 44 = some (.iconst 2) := by decide +kernel
theorem u24_44 {S : Option (Nat × (Nat → Int32))} {H : jm_H} {Q : Option Value → jm_H → Prop} {y0 : Int64} : jm_w S 1 24 44 [.long y0, .null] [] H Q = jm_w S 1 24 45 [.long y0, .null] [.int (2 : Int32)] H Q := jsci at24_44 rfl rfl
theorem at24_45 : jm_at 24 45 = some (.ireturn) := by decide +kernel
theorem u24_45 {S : Option (Nat × (Nat → Int32))} {H : jm_H} {Q : Option Value → jm_H → Prop} {y0 : Int64} {p0 : Int32} : jm_w S 1 24 45 [.long y0, .null] [.int p0] H Q = Q (some (.int p0)) H := jsret_i at24_45 rfl
theorem en24 {S : Option (Nat × (Nat → Int32))} {H : jm_H} {Q : Option Value → jm_H → Prop} {y0 : Int64} : jm_c S 24 [.long y0] H Q = jm_w S 1 24 0 [.long y0, .null] [] H Q := rfl
theorem at25_0 : jm_at 25 0 = some (.iload_n 0) := by decide +kernel
theorem at25_1 : jm_at 25 1 = some (.bipush 48) := by decide +kernel
theorem at25_3 : jm_at 25 3 = some (.if_icmp .lt 13) := by decide +kernel
theorem u25_0 {S : Option (Nat × (Nat → Int32))} {H : jm_H} {Q : Option Value → jm_H → Prop} {x0 : Int32} : jm_w S 1 25 0 [.int x0] [] H Q = if x0 < (48 : Int32) then jm_w S 1 25 16 [.int x0] [] H Q else jm_w S 1 25 6 [.int x0] [] H Q := (js1 at25_0 rfl rfl rfl).trans ((jscb at25_1 rfl rfl).trans (jsif (P := x0 < (48 : Int32)) at25_3 rfl rfl))
theorem at25_6 : jm_at 25 6 = some (.iload_n 0) := by decide +kernel
theorem at25_7 : jm_at 25 7 = some (.bipush 57) := by decide +kernel
theorem at25_9 : jm_at 25 9 = some (.if_icmp .gt 7) := by decide +kernel
theorem u25_6 {S : Option (Nat × (Nat → Int32))} {H : jm_H} {Q : Option Value → jm_H → Prop} {x0 : Int32} : jm_w S 1 25 6 [.int x0] [] H Q = if (57 : Int32) < x0 then jm_w S 1 25 16 [.int x0] [] H Q else jm_w S 1 25 12 [.int x0] [] H Q := (js1 at25_6 rfl rfl rfl).trans ((jscb at25_7 rfl rfl).trans (jsif (P := (57 : Int32) < x0) at25_9 rfl rfl))
theorem at25_12 : jm_at 25 12 = some (.iconst 1) := by decide +kernel
theorem at25_13 : jm_at 25 13 = some (.goto 4) := by decide +kernel
theorem u25_12 {S : Option (Nat × (Nat → Int32))} {H : jm_H} {Q : Option Value → jm_H → Prop} {x0 : Int32} : jm_w S 1 25 12 [.int x0] [] H Q = jm_w S 1 25 17 [.int x0] [.int (1 : Int32)] H Q := (jsci at25_12 rfl rfl).trans (js2 at25_13 rfl rfl)
theorem at25_16 : jm_at 25 16 = some (.iconst 0) := by decide +kernel
theorem u25_16 {S : Option (Nat × (Nat → Int32))} {H : jm_H} {Q : Option Value → jm_H → Prop} {x0 : Int32} : jm_w S 1 25 16 [.int x0] [] H Q = jm_w S 1 25 17 [.int x0] [.int (0 : Int32)] H Q := jsci at25_16 rfl rfl
theorem at25_17 : jm_at 25 17 = some (.ireturn) := by decide +kernel
theorem u25_17 {S : Option (Nat × (Nat → Int32))} {H : jm_H} {Q : Option Value → jm_H → Prop} {x0 p0 : Int32} (h0 : p0 = 0 ∨ p0 = 1) : jm_w S 1 25 17 [.int x0] [.int p0] H Q = Q (some (.int p0)) H := jsret_z at25_17 rfl h0
theorem en25 {S : Option (Nat × (Nat → Int32))} {H : jm_H} {Q : Option Value → jm_H → Prop} {x0 : Int32} : jm_c S 25 [.int x0] H Q = jm_w S 1 25 0 [.int x0] [] H Q := rfl
theorem at26_0 : jm_at 26 0 = some (.aload_n 0) := by decide +kernel
theorem at26_1 : jm_at 26 1 = some (.lconst 0) := by decide +kernel
theorem at26_2 : jm_at 26 2 = some (.putfield 115) := by decide +kernel
theorem rv26p_115 : jm_rv 26 (.putfield 115) = (0, 1, 7, 0) := by decide +kernel
theorem u26_0 {S : Option (Nat × (Nat → Int32))} {H : jm_H} {Q : Option Value → jm_H → Prop} {r0 : Nat} (h0 : jm_tg H r0 = 2) : jm_w S 2 26 0 [.ref r0] [] H Q = jm_w S 2 26 5 [.ref r0] [] (jm_pL H r0 7 (0 : Int64)) Q := (js1 at26_0 rfl rfl rfl).trans ((jscl at26_1 rfl rfl).trans (jspL (H := H) at26_2 rv26p_115 rfl h0 rfl))
theorem at26_5 : jm_at 26 5 = some (.aload_n 0) := by decide +kernel
theorem at26_6 : jm_at 26 6 = some (.getfield 75) := by decide +kernel
theorem rv26g_75 : jm_rv 26 (.getfield 75) = (0, 1, 4, 0) := by decide +kernel
theorem at26_9 : jm_at 26 9 = some (.aload_n 0) := by decide +kernel
theorem at26_10 : jm_at 26 10 = some (.getfield 12) := by decide +kernel
theorem rv26g_12 : jm_rv 26 (.getfield 12) = (0, 1, 0, 0) := by decide +kernel
theorem at26_13 : jm_at 26 13 = some (.getfield 90) := by decide +kernel
theorem rv26g_90 : jm_rv 26 (.getfield 90) = (0, 8, 1, 0) := by decide +kernel
theorem at26_16 : jm_at 26 16 = some (.if_icmp .ge 62) := by decide +kernel
theorem u26_5 {S : Option (Nat × (Nat → Int32))} {H : jm_H} {Q : Option Value → jm_H → Prop} {r0 : Nat} (h0 : jm_tg H r0 = 2) (h1 : ¬ jm_R H r0 0 = 0) (h2 : jm_tg H (jm_R H r0 0) = 9) : jm_w S 2 26 5 [.ref r0] [] H Q = if (jm_I H (jm_R H r0 0) 1) ≤ (jm_I H r0 4) then jm_w S 2 26 78 [.ref r0] [] H Q else jm_w S 2 26 19 [.ref r0] [] H Q := (js1 at26_5 rfl rfl rfl).trans ((jsgI (H := H) at26_6 rv26g_75 (Or.inl rfl) h0 rfl).trans ((js1 at26_9 rfl rfl rfl).trans ((jsgR (H := H) at26_10 rv26g_12 rfl h0 h1 rfl).trans ((jsgI (H := H) at26_13 rv26g_90 (Or.inl rfl) h2 rfl).trans (jsif (P := (jm_I H (jm_R H r0 0) 1) ≤ (jm_I H r0 4)) at26_16 rfl rfl)))))
theorem at26_19 : jm_at 26 19 = some (.aload_n 0) := by decide +kernel
theorem at26_20 : jm_at 26 20 = some (.getfield 12) := by decide +kernel
theorem at26_23 : jm_at 26 23 = some (.aload_n 0) := by decide +kernel
theorem at26_24 : jm_at 26 24 = some (.getfield 75) := by decide +kernel
theorem at26_27 : jm_at 26 27 = some (.invokevirtual 91) := by decide +kernel
theorem rv26i_91 : jm_rv 26 (.invokevirtual 91) = (2, 20, 0, 0) := by decide +kernel
theorem u26_19 {S : Option (Nat × (Nat → Int32))} {H : jm_H} {Q : Option Value → jm_H → Prop} {r0 : Nat} (h0 : jm_tg H r0 = 2) (h1 : ¬ jm_R H r0 0 = 0) (h2 : jm_tg H (jm_R H r0 0) = 9) : jm_w S 2 26 19 [.ref r0] [] H Q = jm_c S 20 [.ref (jm_R H r0 0), .int (jm_I H r0 4)] H (fun v G => jm_w S 2 26 30 [.ref r0] (v.toList ++ []) G Q) := (js1 at26_19 rfl rfl rfl).trans ((jsgR (H := H) at26_20 rv26g_12 rfl h0 h1 rfl).trans ((js1 at26_23 rfl rfl rfl).trans ((jsgI (H := H) at26_24 rv26g_75 (Or.inl rfl) h0 rfl).trans (jscall (H := H) (as := [.ref (jm_R H r0 0), .int (jm_I H r0 4)]) (q := []) at26_27 rfl rv26i_91 (jscutV rfl rfl rfl (Nat.le_of_ble_eq_true rfl) rfl h2) rfl (Nat.le_of_ble_eq_true rfl) rfl rfl))))
theorem at26_30 : jm_at 26 30 = some (.invokestatic 106) := by decide +kernel
theorem rv26i_106 : jm_rv 26 (.invokestatic 106) = (1, 25, 0, 0) := by decide +kernel
theorem u26_30 {S : Option (Nat × (Nat → Int32))} {H : jm_H} {Q : Option Value → jm_H → Prop} {r0 : Nat} {p0 : Int32} : jm_w S 2 26 30 [.ref r0] [.int p0] H Q = jm_c S 25 [.int p0] H (fun v G => jm_w S 2 26 33 [.ref r0] (v.toList ++ []) G Q) := jscall (H := H) (as := [.int p0]) (q := []) at26_30 rfl rv26i_106 (jscut rfl rfl rfl (Nat.le_of_ble_eq_true rfl)) rfl (Nat.le_of_ble_eq_true rfl) rfl rfl
theorem at26_33 : jm_at 26 33 = some (.ifCond .eq 45) := by decide +kernel
theorem u26_33 {S : Option (Nat × (Nat → Int32))} {H : jm_H} {Q : Option Value → jm_H → Prop} {r0 : Nat} {p0 : Int32} : jm_w S 2 26 33 [.ref r0] [.int p0] H Q = if p0 = 0 then jm_w S 2 26 78 [.ref r0] [] H Q else jm_w S 2 26 36 [.ref r0] [] H Q := jsif (P := p0 = 0) at26_33 rfl rfl
theorem at26_36 : jm_at 26 36 = some (.aload_n 0) := by decide +kernel
theorem at26_37 : jm_at 26 37 = some (.aload_n 0) := by decide +kernel
theorem at26_38 : jm_at 26 38 = some (.getfield 115) := by decide +kernel
theorem rv26g_115 : jm_rv 26 (.getfield 115) = (0, 1, 7, 0) := by decide +kernel
theorem at26_41 : jm_at 26 41 = some (.ldc2_w 127) := by decide +kernel
theorem rv26l_127 : jm_rv 26 (.ldc2_w 127) = (9, 0, 0, 10) := by decide +kernel
theorem at26_44 : jm_at 26 44 = some (.lmul) := by decide +kernel
theorem at26_45 : jm_at 26 45 = some (.aload_n 0) := by decide +kernel
theorem at26_46 : jm_at 26 46 = some (.getfield 12) := by decide +kernel
theorem at26_49 : jm_at 26 49 = some (.aload_n 0) := by decide +kernel
theorem at26_50 : jm_at 26 50 = some (.getfield 75) := by decide +kernel
theorem at26_53 : jm_at 26 53 = some (.invokevirtual 91) := by decide +kernel
theorem u26_36 {S : Option (Nat × (Nat → Int32))} {H : jm_H} {Q : Option Value → jm_H → Prop} {r0 : Nat} (h0 : jm_tg H r0 = 2) (h1 : ¬ jm_R H r0 0 = 0) (h2 : jm_tg H (jm_R H r0 0) = 9) : jm_w S 2 26 36 [.ref r0] [] H Q = jm_c S 20 [.ref (jm_R H r0 0), .int (jm_I H r0 4)] H (fun v G => jm_w S 2 26 56 [.ref r0] (v.toList ++ [.long ((jm_L H r0 7) * (10 : Int64)), .ref r0]) G Q) := (js1 at26_36 rfl rfl rfl).trans ((js1 at26_37 rfl rfl rfl).trans ((jsgL (H := H) at26_38 rv26g_115 rfl h0 rfl).trans ((jsk2 at26_41 rv26l_127 rfl rfl).trans ((js0 at26_44 rfl rfl rfl).trans ((js1 at26_45 rfl rfl rfl).trans ((jsgR (H := H) at26_46 rv26g_12 rfl h0 h1 rfl).trans ((js1 at26_49 rfl rfl rfl).trans ((jsgI (H := H) at26_50 rv26g_75 (Or.inl rfl) h0 rfl).trans (jscall (H := H) (as := [.ref (jm_R H r0 0), .int (jm_I H r0 4)]) (q := [.long ((jm_L H r0 7) * (10 : Int64)), .ref r0]) at26_53 rfl rv26i_91 (jscutV rfl rfl rfl (Nat.le_of_ble_eq_true rfl) rfl h2) rfl (Nat.le_of_ble_eq_true rfl) rfl rfl)))))))))
theorem at26_56 : jm_at 26 56 = some (.i2l) := by decide +kernel
theorem at26_57 : jm_at 26 57 = some (.ladd) := by decide +kernel
theorem at26_58 : jm_at 26 58 = some (.ldc2_w 129) := by decide +kernel
theorem rv26l_129 : jm_rv 26 (.ldc2_w 129) = (9, 0, 0, 48) := by decide +kernel
theorem at26_61 : jm_at 26 61 = some (.lsub) := by decide +kernel
theorem at26_62 : jm_at 26 62 = some (.putfield 115) := by decide +kernel
theorem at26_65 : jm_at 26 65 = some (.aload_n 0) := by decide +kernel
theorem at26_66 : jm_at 26 66 = some (.dup) := by decide +kernel
theorem at26_67 : jm_at 26 67 = some (.getfield 75) := by decide +kernel
theorem at26_70 : jm_at 26 70 = some (.iconst 1) := by decide +kernel
theorem at26_71 : jm_at 26 71 = some (.iadd) := by decide +kernel
theorem at26_72 : jm_at 26 72 = some (.putfield 75) := by decide +kernel
theorem rv26p_75 : jm_rv 26 (.putfield 75) = (0, 1, 4, 0) := by decide +kernel
theorem at26_75 : jm_at 26 75 = some (.goto (-70)) := by decide +kernel
theorem u26_56 {S : Option (Nat × (Nat → Int32))} {H : jm_H} {Q : Option Value → jm_H → Prop} {r0 o0 : Nat} {q1 : Int64} {p2 : Int32} (h0 : jm_tg H o0 = 2) (h1 : jm_tg H r0 = 2) : jm_w S 2 26 56 [.ref r0] [.int p2, .long q1, .ref o0] H Q = jm_w S 2 26 5 [.ref r0] [] (jm_pI (jm_pL H o0 7 ((q1 + (Int32.toInt64 p2)) - (48 : Int64))) r0 4 ((jm_I H r0 4) + (1 : Int32))) Q := (js0 at26_56 rfl rfl rfl).trans ((js0 at26_57 rfl rfl rfl).trans ((jsk2 at26_58 rv26l_129 rfl rfl).trans ((js0 at26_61 rfl rfl rfl).trans ((jspL (H := H) at26_62 rv26p_115 rfl h0 rfl).trans ((js1 at26_65 rfl rfl rfl).trans ((js0 at26_66 rfl rfl rfl).trans ((jsgI (H := (jm_pL H o0 7 ((q1 + (Int32.toInt64 p2)) - (48 : Int64)))) at26_67 rv26g_75 (Or.inl rfl) h1 rfl).trans ((jsci at26_70 rfl rfl).trans ((js0 at26_71 rfl rfl rfl).trans ((jspI (H := (jm_pL H o0 7 ((q1 + (Int32.toInt64 p2)) - (48 : Int64)))) at26_72 rv26p_75 rfl h1 rfl).trans (js2 at26_75 rfl rfl)))))))))))
theorem at26_78 : jm_at 26 78 = some (.aload_n 0) := by decide +kernel
theorem at26_79 : jm_at 26 79 = some (.aload_n 0) := by decide +kernel
theorem at26_80 : jm_at 26 80 = some (.getfield 75) := by decide +kernel
theorem at26_83 : jm_at 26 83 = some (.aload_n 0) := by decide +kernel
theorem at26_84 : jm_at 26 84 = some (.getfield 98) := by decide +kernel
theorem rv26g_98 : jm_rv 26 (.getfield 98) = (0, 1, 6, 0) := by decide +kernel
theorem at26_87 : jm_at 26 87 = some (.isub) := by decide +kernel
theorem at26_88 : jm_at 26 88 = some (.iconst 4) := by decide +kernel
theorem at26_89 : jm_at 26 89 = some (.if_icmp .le 7) := by decide +kernel
theorem u26_78 {S : Option (Nat × (Nat → Int32))} {H : jm_H} {Q : Option Value → jm_H → Prop} {r0 : Nat} (h0 : jm_tg H r0 = 2) : jm_w S 2 26 78 [.ref r0] [] H Q = if ((jm_I H r0 4) - (jm_I H r0 6)) ≤ (4 : Int32) then jm_w S 2 26 96 [.ref r0] [.ref r0] H Q else jm_w S 2 26 92 [.ref r0] [.ref r0] H Q := (js1 at26_78 rfl rfl rfl).trans ((js1 at26_79 rfl rfl rfl).trans ((jsgI (H := H) at26_80 rv26g_75 (Or.inl rfl) h0 rfl).trans ((js1 at26_83 rfl rfl rfl).trans ((jsgI (H := H) at26_84 rv26g_98 (Or.inl rfl) h0 rfl).trans ((js0 at26_87 rfl rfl rfl).trans ((jsci at26_88 rfl rfl).trans (jsif (P := ((jm_I H r0 4) - (jm_I H r0 6)) ≤ (4 : Int32)) at26_89 rfl rfl)))))))
theorem at26_92 : jm_at 26 92 = some (.iconst 1) := by decide +kernel
theorem at26_93 : jm_at 26 93 = some (.goto 4) := by decide +kernel
theorem u26_92 {S : Option (Nat × (Nat → Int32))} {H : jm_H} {Q : Option Value → jm_H → Prop} {r0 o0 : Nat} : jm_w S 2 26 92 [.ref r0] [.ref o0] H Q = jm_w S 2 26 97 [.ref r0] [.int (1 : Int32), .ref o0] H Q := (jsci at26_92 rfl rfl).trans (js2 at26_93 rfl rfl)
theorem at26_96 : jm_at 26 96 = some (.iconst 3) := by decide +kernel
theorem u26_96 {S : Option (Nat × (Nat → Int32))} {H : jm_H} {Q : Option Value → jm_H → Prop} {r0 o0 : Nat} : jm_w S 2 26 96 [.ref r0] [.ref o0] H Q = jm_w S 2 26 97 [.ref r0] [.int (3 : Int32), .ref o0] H Q := jsci at26_96 rfl rfl
theorem at26_97 : jm_at 26 97 = some (.putfield 47) := by decide +kernel
theorem rv26p_47 : jm_rv 26 (.putfield 47) = (0, 1, 5, 0) := by decide +kernel
theorem at26_100 : jm_at 26 100 = some (.return_) := by decide +kernel
theorem u26_97 {S : Option (Nat × (Nat → Int32))} {H : jm_H} {Q : Option Value → jm_H → Prop} {r0 o0 : Nat} {p1 : Int32} (h0 : jm_tg H o0 = 2) : jm_w S 2 26 97 [.ref r0] [.int p1, .ref o0] H Q = Q none (jm_pI H o0 5 p1) := (jspI (H := H) at26_97 rv26p_47 rfl h0 rfl).trans (jsret_v at26_100 rfl)
theorem en26 {S : Option (Nat × (Nat → Int32))} {H : jm_H} {Q : Option Value → jm_H → Prop} {r0 : Nat} : jm_c S 26 [.ref r0] H Q = jm_w S 2 26 0 [.ref r0] [] H Q := rfl
theorem at27_0 : jm_at 27 0 = some (.iload_n 0) := by decide +kernel
theorem at27_1 : jm_at 27 1 = some (.bipush 40) := by decide +kernel
theorem at27_3 : jm_at 27 3 = some (.if_icmp .lt 9) := by decide +kernel
theorem u27_0 {S : Option (Nat × (Nat → Int32))} {H : jm_H} {Q : Option Value → jm_H → Prop} {x0 : Int32} : jm_w S 1 27 0 [.int x0] [] H Q = if x0 < (40 : Int32) then jm_w S 1 27 12 [.int x0] [] H Q else jm_w S 1 27 6 [.int x0] [] H Q := (js1 at27_0 rfl rfl rfl).trans ((jscb at27_1 rfl rfl).trans (jsif (P := x0 < (40 : Int32)) at27_3 rfl rfl))
theorem at27_6 : jm_at 27 6 = some (.iload_n 0) := by decide +kernel
theorem at27_7 : jm_at 27 7 = some (.bipush 45) := by decide +kernel
theorem at27_9 : jm_at 27 9 = some (.if_icmp .le 15) := by decide +kernel
theorem u27_6 {S : Option (Nat × (Nat → Int32))} {H : jm_H} {Q : Option Value → jm_H → Prop} {x0 : Int32} : jm_w S 1 27 6 [.int x0] [] H Q = if x0 ≤ (45 : Int32) then jm_w S 1 27 24 [.int x0] [] H Q else jm_w S 1 27 12 [.int x0] [] H Q := (js1 at27_6 rfl rfl rfl).trans ((jscb at27_7 rfl rfl).trans (jsif (P := x0 ≤ (45 : Int32)) at27_9 rfl rfl))
theorem at27_12 : jm_at 27 12 = some (.iload_n 0) := by decide +kernel
theorem at27_13 : jm_at 27 13 = some (.bipush 47) := by decide +kernel
theorem at27_15 : jm_at 27 15 = some (.if_icmp .eq 9) := by decide +kernel
theorem u27_12 {S : Option (Nat × (Nat → Int32))} {H : jm_H} {Q : Option Value → jm_H → Prop} {x0 : Int32} : jm_w S 1 27 12 [.int x0] [] H Q = if x0 = (47 : Int32) then jm_w S 1 27 24 [.int x0] [] H Q else jm_w S 1 27 18 [.int x0] [] H Q := (js1 at27_12 rfl rfl rfl).trans ((jscb at27_13 rfl rfl).trans (jsif (P := x0 = (47 : Int32)) at27_15 rfl rfl))
theorem at27_18 : jm_at 27 18 = some (.iload_n 0) := by decide +kernel
theorem at27_19 : jm_at 27 19 = some (.bipush 59) := by decide +kernel
theorem at27_21 : jm_at 27 21 = some (.if_icmp .ne 7) := by decide +kernel
theorem u27_18 {S : Option (Nat × (Nat → Int32))} {H : jm_H} {Q : Option Value → jm_H → Prop} {x0 : Int32} : jm_w S 1 27 18 [.int x0] [] H Q = if ¬ x0 = (59 : Int32) then jm_w S 1 27 28 [.int x0] [] H Q else jm_w S 1 27 24 [.int x0] [] H Q := (js1 at27_18 rfl rfl rfl).trans ((jscb at27_19 rfl rfl).trans (jsif (P := ¬ x0 = (59 : Int32)) at27_21 rfl rfl))
theorem at27_24 : jm_at 27 24 = some (.iconst 1) := by decide +kernel
theorem at27_25 : jm_at 27 25 = some (.goto 4) := by decide +kernel
theorem u27_24 {S : Option (Nat × (Nat → Int32))} {H : jm_H} {Q : Option Value → jm_H → Prop} {x0 : Int32} : jm_w S 1 27 24 [.int x0] [] H Q = jm_w S 1 27 29 [.int x0] [.int (1 : Int32)] H Q := (jsci at27_24 rfl rfl).trans (js2 at27_25 rfl rfl)
theorem at27_28 : jm_at 27 28 = some (.iconst 0) := by decide +kernel
theorem u27_28 {S : Option (Nat × (Nat → Int32))} {H : jm_H} {Q : Option Value → jm_H → Prop} {x0 : Int32} : jm_w S 1 27 28 [.int x0] [] H Q = jm_w S 1 27 29 [.int x0] [.int (0 : Int32)] H Q := jsci at27_28 rfl rfl
theorem at27_29 : jm_at 27 29 = some (.ireturn) := by decide +kernel
theorem u27_29 {S : Option (Nat × (Nat → Int32))} {H : jm_H} {Q : Option Value → jm_H → Prop} {x0 p0 : Int32} (h0 : p0 = 0 ∨ p0 = 1) : jm_w S 1 27 29 [.int x0] [.int p0] H Q = Q (some (.int p0)) H := jsret_z at27_29 rfl h0
theorem en27 {S : Option (Nat × (Nat → Int32))} {H : jm_H} {Q : Option Value → jm_H → Prop} {x0 : Int32} : jm_c S 27 [.int x0] H Q = jm_w S 1 27 0 [.int x0] [] H Q := rfl
theorem at28_0 : jm_at 28 0 = some (.aload_n 0) := by decide +kernel
theorem at28_1 : jm_at 28 1 = some (.getfield 57) := by decide +kernel
theorem rv28g_57 : jm_rv 28 (.getfield 57) = (0, 1, 11, 0) := by decide +kernel
theorem at28_4 : jm_at 28 4 = some (.ifCond .eq 5) := by decide +kernel
theorem u28_0 {S : Option (Nat × (Nat → Int32))} {H : jm_H} {Q : Option Value → jm_H → Prop} {r0 : Nat} {x1 : Int32} (h0 : jm_tg H r0 = 2) : jm_w S 4 28 0 [.ref r0, .int x1] [] H Q = if (jm_I H r0 11) = 0 then jm_w S 4 28 9 [.ref r0, .int x1] [] H Q else jm_w S 4 28 7 [.ref r0, .int x1] [] H Q := (js1 at28_0 rfl rfl rfl).trans ((jsgI (H := H) at28_1 rv28g_57 (Or.inl rfl) h0 rfl).trans (jsif (P := (jm_I H r0 11) = 0) at28_4 rfl rfl))
theorem at28_7 : jm_at 28 7 = some (.iconst 0) := by decide +kernel
theorem at28_8 : jm_at 28 8 = some (.ireturn) := by decide +kernel
theorem u28_7 {S : Option (Nat × (Nat → Int32))} {H : jm_H} {Q : Option Value → jm_H → Prop} {r0 : Nat} {x1 : Int32} : jm_w S 4 28 7 [.ref r0, .int x1] [] H Q = Q (some (.int (0 : Int32))) H := (jsci at28_7 rfl rfl).trans (jsret_z at28_8 rfl (by decide))
theorem at28_9 : jm_at 28 9 = some (.aload_n 0) := by decide +kernel
theorem at28_10 : jm_at 28 10 = some (.getfield 47) := by decide +kernel
theorem rv28g_47 : jm_rv 28 (.getfield 47) = (0, 1, 5, 0) := by decide +kernel
theorem at28_13 : jm_at 28 13 = some (.iload_n 1) := by decide +kernel
theorem at28_14 : jm_at 28 14 = some (.if_icmp .eq 10) := by decide +kernel
theorem u28_9 {S : Option (Nat × (Nat → Int32))} {H : jm_H} {Q : Option Value → jm_H → Prop} {r0 : Nat} {x1 : Int32} (h0 : jm_tg H r0 = 2) : jm_w S 4 28 9 [.ref r0, .int x1] [] H Q = if (jm_I H r0 5) = x1 then jm_w S 4 28 24 [.ref r0, .int x1] [] H Q else jm_w S 4 28 17 [.ref r0, .int x1] [] H Q := (js1 at28_9 rfl rfl rfl).trans ((jsgI (H := H) at28_10 rv28g_47 (Or.inl rfl) h0 rfl).trans ((js1 at28_13 rfl rfl rfl).trans (jsif (P := (jm_I H r0 5) = x1) at28_14 rfl rfl)))
theorem at28_17 : jm_at 28 17 = some (.aload_n 0) := by decide +kernel
theorem at28_18 : jm_at 28 18 = some (.iconst 1) := by decide +kernel
theorem at28_19 : jm_at 28 19 = some (.invokevirtual 53) := by decide +kernel
theorem rv28i_53 : jm_rv 28 (.invokevirtual 53) = (2, 29, 0, 0) := by decide +kernel
theorem u28_17 {S : Option (Nat × (Nat → Int32))} {H : jm_H} {Q : Option Value → jm_H → Prop} {r0 : Nat} {x1 : Int32} (h0 : jm_tg H r0 = 2) : jm_w S 4 28 17 [.ref r0, .int x1] [] H Q = jm_c S 29 [.ref r0, .int (1 : Int32)] H (fun v G => jm_w S 4 28 22 [.ref r0, .int x1] (v.toList ++ []) G Q) := (js1 at28_17 rfl rfl rfl).trans ((jsci at28_18 rfl rfl).trans (jscall (H := H) (as := [.ref r0, .int (1 : Int32)]) (q := []) at28_19 rfl rv28i_53 (jscutV rfl rfl rfl (Nat.le_of_ble_eq_true rfl) rfl h0) rfl (Nat.le_of_ble_eq_true rfl) rfl rfl))
theorem at28_22 : jm_at 28 22 = some (.iconst 0) := by decide +kernel
theorem at28_23 : jm_at 28 23 = some (.ireturn) := by decide +kernel
theorem u28_22 {S : Option (Nat × (Nat → Int32))} {H : jm_H} {Q : Option Value → jm_H → Prop} {r0 : Nat} {x1 : Int32} : jm_w S 4 28 22 [.ref r0, .int x1] [] H Q = Q (some (.int (0 : Int32))) H := (jsci at28_22 rfl rfl).trans (jsret_z at28_23 rfl (by decide))
theorem at28_24 : jm_at 28 24 = some (.aload_n 0) := by decide +kernel
theorem at28_25 : jm_at 28 25 = some (.dup) := by decide +kernel
theorem at28_26 : jm_at 28 26 = some (.getfield 81) := by decide +kernel
theorem rv28g_81 : jm_rv 28 (.getfield 81) = (0, 1, 9, 0) := by decide +kernel
theorem at28_29 : jm_at 28 29 = some (.aload_n 0) := by decide +kernel
theorem at28_30 : jm_at 28 30 = some (.getfield 47) := by decide +kernel
theorem at28_33 : jm_at 28 33 = some (.iconst 5) := by decide +kernel
theorem at28_34 : jm_at 28 34 = some (.if_icmp .ne 7) := by decide +kernel
theorem u28_24 {S : Option (Nat × (Nat → Int32))} {H : jm_H} {Q : Option Value → jm_H → Prop} {r0 : Nat} {x1 : Int32} (h0 : jm_tg H r0 = 2) : jm_w S 4 28 24 [.ref r0, .int x1] [] H Q = if ¬ (jm_I H r0 5) = (5 : Int32) then jm_w S 4 28 41 [.ref r0, .int x1] [.int (jm_I H r0 9), .ref r0] H Q else jm_w S 4 28 37 [.ref r0, .int x1] [.int (jm_I H r0 9), .ref r0] H Q := (js1 at28_24 rfl rfl rfl).trans ((js0 at28_25 rfl rfl rfl).trans ((jsgI (H := H) at28_26 rv28g_81 (Or.inl rfl) h0 rfl).trans ((js1 at28_29 rfl rfl rfl).trans ((jsgI (H := H) at28_30 rv28g_47 (Or.inl rfl) h0 rfl).trans ((jsci at28_33 rfl rfl).trans (jsif (P := ¬ (jm_I H r0 5) = (5 : Int32)) at28_34 rfl rfl))))))
theorem at28_37 : jm_at 28 37 = some (.iconst 1) := by decide +kernel
theorem at28_38 : jm_at 28 38 = some (.goto 4) := by decide +kernel
theorem u28_37 {S : Option (Nat × (Nat → Int32))} {H : jm_H} {Q : Option Value → jm_H → Prop} {r0 o0 : Nat} {x1 p1 : Int32} : jm_w S 4 28 37 [.ref r0, .int x1] [.int p1, .ref o0] H Q = jm_w S 4 28 42 [.ref r0, .int x1] [.int (1 : Int32), .int p1, .ref o0] H Q := (jsci at28_37 rfl rfl).trans (js2 at28_38 rfl rfl)
theorem at28_41 : jm_at 28 41 = some (.iconst 0) := by decide +kernel
theorem u28_41 {S : Option (Nat × (Nat → Int32))} {H : jm_H} {Q : Option Value → jm_H → Prop} {r0 o0 : Nat} {x1 p1 : Int32} : jm_w S 4 28 41 [.ref r0, .int x1] [.int p1, .ref o0] H Q = jm_w S 4 28 42 [.ref r0, .int x1] [.int (0 : Int32), .int p1, .ref o0] H Q := jsci at28_41 rfl rfl
theorem at28_42 : jm_at 28 42 = some (.iadd) := by decide +kernel
theorem at28_43 : jm_at 28 43 = some (.putfield 81) := by decide +kernel
theorem rv28p_81 : jm_rv 28 (.putfield 81) = (0, 1, 9, 0) := by decide +kernel
theorem at28_46 : jm_at 28 46 = some (.aload_n 0) := by decide +kernel
theorem at28_47 : jm_at 28 47 = some (.dup) := by decide +kernel
theorem at28_48 : jm_at 28 48 = some (.getfield 84) := by decide +kernel
theorem rv28g_84 : jm_rv 28 (.getfield 84) = (0, 1, 10, 0) := by decide +kernel
theorem at28_51 : jm_at 28 51 = some (.aload_n 0) := by decide +kernel
theorem at28_52 : jm_at 28 52 = some (.getfield 47) := by decide +kernel
theorem at28_55 : jm_at 28 55 = some (.bipush 40) := by decide +kernel
theorem at28_57 : jm_at 28 57 = some (.if_icmp .ne 7) := by decide +kernel
theorem u28_42 {S : Option (Nat × (Nat → Int32))} {H : jm_H} {Q : Option Value → jm_H → Prop} {r0 o0 : Nat} {x1 p1 p2 : Int32} (h0 : jm_tg H o0 = 2) (h1 : jm_tg H r0 = 2) : jm_w S 4 28 42 [.ref r0, .int x1] [.int p2, .int p1, .ref o0] H Q = if ¬ (jm_I (jm_pI H o0 9 (p1 + p2)) r0 5) = (40 : Int32) then jm_w S 4 28 64 [.ref r0, .int x1] [.int (jm_I (jm_pI H o0 9 (p1 + p2)) r0 10), .ref r0] (jm_pI H o0 9 (p1 + p2)) Q else jm_w S 4 28 60 [.ref r0, .int x1] [.int (jm_I (jm_pI H o0 9 (p1 + p2)) r0 10), .ref r0] (jm_pI H o0 9 (p1 + p2)) Q := (js0 at28_42 rfl rfl rfl).trans ((jspI (H := H) at28_43 rv28p_81 rfl h0 rfl).trans ((js1 at28_46 rfl rfl rfl).trans ((js0 at28_47 rfl rfl rfl).trans ((jsgI (H := (jm_pI H o0 9 (p1 + p2))) at28_48 rv28g_84 (Or.inl rfl) h1 rfl).trans ((js1 at28_51 rfl rfl rfl).trans ((jsgI (H := (jm_pI H o0 9 (p1 + p2))) at28_52 rv28g_47 (Or.inl rfl) h1 rfl).trans ((jscb at28_55 rfl rfl).trans (jsif (P := ¬ (jm_I (jm_pI H o0 9 (p1 + p2)) r0 5) = (40 : Int32)) at28_57 rfl rfl))))))))
theorem at28_60 : jm_at 28 60 = some (.iconst 1) := by decide +kernel
theorem at28_61 : jm_at 28 61 = some (.goto 17) := by decide +kernel
theorem u28_60 {S : Option (Nat × (Nat → Int32))} {H : jm_H} {Q : Option Value → jm_H → Prop} {r0 o0 : Nat} {x1 p1 : Int32} : jm_w S 4 28 60 [.ref r0, .int x1] [.int p1, .ref o0] H Q = jm_w S 4 28 78 [.ref r0, .int x1] [.int (1 : Int32), .int p1, .ref o0] H Q := (jsci at28_60 rfl rfl).trans (js2 at28_61 rfl rfl)
theorem at28_64 : jm_at 28 64 = some (.aload_n 0) := by decide +kernel
theorem at28_65 : jm_at 28 65 = some (.getfield 47) := by decide +kernel
theorem at28_68 : jm_at 28 68 = some (.bipush 41) := by decide +kernel
theorem at28_70 : jm_at 28 70 = some (.if_icmp .ne 7) := by decide +kernel
theorem u28_64 {S : Option (Nat × (Nat → Int32))} {H : jm_H} {Q : Option Value → jm_H → Prop} {r0 o0 : Nat} {x1 p1 : Int32} (h0 : jm_tg H r0 = 2) : jm_w S 4 28 64 [.ref r0, .int x1] [.int p1, .ref o0] H Q = if ¬ (jm_I H r0 5) = (41 : Int32) then jm_w S 4 28 77 [.ref r0, .int x1] [.int p1, .ref o0] H Q else jm_w S 4 28 73 [.ref r0, .int x1] [.int p1, .ref o0] H Q := (js1 at28_64 rfl rfl rfl).trans ((jsgI (H := H) at28_65 rv28g_47 (Or.inl rfl) h0 rfl).trans ((jscb at28_68 rfl rfl).trans (jsif (P := ¬ (jm_I H r0 5) = (41 : Int32)) at28_70 rfl rfl)))
theorem at28_73 : jm_at 28 73 = some (.iconst (-1)) := by decide +kernel
theorem at28_74 : jm_at 28 74 = some (.goto 4) := by decide +kernel
theorem u28_73 {S : Option (Nat × (Nat → Int32))} {H : jm_H} {Q : Option Value → jm_H → Prop} {r0 o0 : Nat} {x1 p1 : Int32} : jm_w S 4 28 73 [.ref r0, .int x1] [.int p1, .ref o0] H Q = jm_w S 4 28 78 [.ref r0, .int x1] [.int (-1 : Int32), .int p1, .ref o0] H Q := (jsci at28_73 rfl rfl).trans (js2 at28_74 rfl rfl)
theorem at28_77 : jm_at 28 77 = some (.iconst 0) := by decide +kernel
theorem u28_77 {S : Option (Nat × (Nat → Int32))} {H : jm_H} {Q : Option Value → jm_H → Prop} {r0 o0 : Nat} {x1 p1 : Int32} : jm_w S 4 28 77 [.ref r0, .int x1] [.int p1, .ref o0] H Q = jm_w S 4 28 78 [.ref r0, .int x1] [.int (0 : Int32), .int p1, .ref o0] H Q := jsci at28_77 rfl rfl
theorem at28_78 : jm_at 28 78 = some (.iadd) := by decide +kernel
theorem at28_79 : jm_at 28 79 = some (.putfield 84) := by decide +kernel
theorem rv28p_84 : jm_rv 28 (.putfield 84) = (0, 1, 10, 0) := by decide +kernel
theorem at28_82 : jm_at 28 82 = some (.aload_n 0) := by decide +kernel
theorem at28_83 : jm_at 28 83 = some (.getfield 78) := by decide +kernel
theorem rv28g_78 : jm_rv 28 (.getfield 78) = (0, 1, 8, 0) := by decide +kernel
theorem at28_86 : jm_at 28 86 = some (.sipush 400) := by decide +kernel
theorem at28_89 : jm_at 28 89 = some (.if_icmp .gt 21) := by decide +kernel
theorem u28_78 {S : Option (Nat × (Nat → Int32))} {H : jm_H} {Q : Option Value → jm_H → Prop} {r0 o0 : Nat} {x1 p1 p2 : Int32} (h0 : jm_tg H o0 = 2) (h1 : jm_tg H r0 = 2) : jm_w S 4 28 78 [.ref r0, .int x1] [.int p2, .int p1, .ref o0] H Q = if (400 : Int32) < (jm_I (jm_pI H o0 10 (p1 + p2)) r0 8) then jm_w S 4 28 110 [.ref r0, .int x1] [] (jm_pI H o0 10 (p1 + p2)) Q else jm_w S 4 28 92 [.ref r0, .int x1] [] (jm_pI H o0 10 (p1 + p2)) Q := (js0 at28_78 rfl rfl rfl).trans ((jspI (H := H) at28_79 rv28p_84 rfl h0 rfl).trans ((js1 at28_82 rfl rfl rfl).trans ((jsgI (H := (jm_pI H o0 10 (p1 + p2))) at28_83 rv28g_78 (Or.inl rfl) h1 rfl).trans ((jscs at28_86 rfl rfl).trans (jsif (P := (400 : Int32) < (jm_I (jm_pI H o0 10 (p1 + p2)) r0 8)) at28_89 rfl rfl)))))
theorem at28_92 : jm_at 28 92 = some (.aload_n 0) := by decide +kernel
theorem at28_93 : jm_at 28 93 = some (.getfield 81) := by decide +kernel
theorem at28_96 : jm_at 28 96 = some (.bipush 8) := by decide +kernel
theorem at28_98 : jm_at 28 98 = some (.if_icmp .gt 12) := by decide +kernel
theorem u28_92 {S : Option (Nat × (Nat → Int32))} {H : jm_H} {Q : Option Value → jm_H → Prop} {r0 : Nat} {x1 : Int32} (h0 : jm_tg H r0 = 2) : jm_w S 4 28 92 [.ref r0, .int x1] [] H Q = if (8 : Int32) < (jm_I H r0 9) then jm_w S 4 28 110 [.ref r0, .int x1] [] H Q else jm_w S 4 28 101 [.ref r0, .int x1] [] H Q := (js1 at28_92 rfl rfl rfl).trans ((jsgI (H := H) at28_93 rv28g_81 (Or.inl rfl) h0 rfl).trans ((jscb at28_96 rfl rfl).trans (jsif (P := (8 : Int32) < (jm_I H r0 9)) at28_98 rfl rfl)))
theorem at28_101 : jm_at 28 101 = some (.aload_n 0) := by decide +kernel
theorem at28_102 : jm_at 28 102 = some (.getfield 84) := by decide +kernel
theorem at28_105 : jm_at 28 105 = some (.bipush 8) := by decide +kernel
theorem at28_107 : jm_at 28 107 = some (.if_icmp .le 10) := by decide +kernel
theorem u28_101 {S : Option (Nat × (Nat → Int32))} {H : jm_H} {Q : Option Value → jm_H → Prop} {r0 : Nat} {x1 : Int32} (h0 : jm_tg H r0 = 2) : jm_w S 4 28 101 [.ref r0, .int x1] [] H Q = if (jm_I H r0 10) ≤ (8 : Int32) then jm_w S 4 28 117 [.ref r0, .int x1] [] H Q else jm_w S 4 28 110 [.ref r0, .int x1] [] H Q := (js1 at28_101 rfl rfl rfl).trans ((jsgI (H := H) at28_102 rv28g_84 (Or.inl rfl) h0 rfl).trans ((jscb at28_105 rfl rfl).trans (jsif (P := (jm_I H r0 10) ≤ (8 : Int32)) at28_107 rfl rfl)))
theorem at28_110 : jm_at 28 110 = some (.aload_n 0) := by decide +kernel
theorem at28_111 : jm_at 28 111 = some (.iconst 2) := by decide +kernel
theorem at28_112 : jm_at 28 112 = some (.invokevirtual 53) := by decide +kernel
theorem u28_110 {S : Option (Nat × (Nat → Int32))} {H : jm_H} {Q : Option Value → jm_H → Prop} {r0 : Nat} {x1 : Int32} (h0 : jm_tg H r0 = 2) : jm_w S 4 28 110 [.ref r0, .int x1] [] H Q = jm_c S 29 [.ref r0, .int (2 : Int32)] H (fun v G => jm_w S 4 28 115 [.ref r0, .int x1] (v.toList ++ []) G Q) := (js1 at28_110 rfl rfl rfl).trans ((jsci at28_111 rfl rfl).trans (jscall (H := H) (as := [.ref r0, .int (2 : Int32)]) (q := []) at28_112 rfl rv28i_53 (jscutV rfl rfl rfl (Nat.le_of_ble_eq_true rfl) rfl h0) rfl (Nat.le_of_ble_eq_true rfl) rfl rfl))
theorem at28_115 : jm_at 28 115 = some (.iconst 0) := by decide +kernel
theorem at28_116 : jm_at 28 116 = some (.ireturn) := by decide +kernel
theorem u28_115 {S : Option (Nat × (Nat → Int32))} {H : jm_H} {Q : Option Value → jm_H → Prop} {r0 : Nat} {x1 : Int32} : jm_w S 4 28 115 [.ref r0, .int x1] [] H Q = Q (some (.int (0 : Int32))) H := (jsci at28_115 rfl rfl).trans (jsret_z at28_116 rfl (by decide))
theorem at28_117 : jm_at 28 117 = some (.aload_n 0) := by decide +kernel
theorem at28_118 : jm_at 28 118 = some (.invokevirtual 87) := by decide +kernel
theorem rv28i_87 : jm_rv 28 (.invokevirtual 87) = (2, 19, 0, 0) := by decide +kernel
theorem u28_117 {S : Option (Nat × (Nat → Int32))} {H : jm_H} {Q : Option Value → jm_H → Prop} {r0 : Nat} {x1 : Int32} (h0 : jm_tg H r0 = 2) : jm_w S 4 28 117 [.ref r0, .int x1] [] H Q = jm_c S 19 [.ref r0] H (fun v G => jm_w S 4 28 121 [.ref r0, .int x1] (v.toList ++ []) G Q) := (js1 at28_117 rfl rfl rfl).trans (jscall (H := H) (as := [.ref r0]) (q := []) at28_118 rfl rv28i_87 (jscutV rfl rfl rfl (Nat.le_of_ble_eq_true rfl) rfl h0) rfl (Nat.le_of_ble_eq_true rfl) rfl rfl)
theorem at28_121 : jm_at 28 121 = some (.iconst 1) := by decide +kernel
theorem at28_122 : jm_at 28 122 = some (.ireturn) := by decide +kernel
theorem u28_121 {S : Option (Nat × (Nat → Int32))} {H : jm_H} {Q : Option Value → jm_H → Prop} {r0 : Nat} {x1 : Int32} : jm_w S 4 28 121 [.ref r0, .int x1] [] H Q = Q (some (.int (1 : Int32))) H := (jsci at28_121 rfl rfl).trans (jsret_z at28_122 rfl (by decide))
theorem en28 {S : Option (Nat × (Nat → Int32))} {H : jm_H} {Q : Option Value → jm_H → Prop} {r0 : Nat} {x1 : Int32} : jm_c S 28 [.ref r0, .int x1] H Q = jm_w S 4 28 0 [.ref r0, .int x1] [] H Q := rfl
theorem at29_0 : jm_at 29 0 = some (.aload_n 0) := by decide +kernel
theorem at29_1 : jm_at 29 1 = some (.getfield 57) := by decide +kernel
theorem rv29g_57 : jm_rv 29 (.getfield 57) = (0, 1, 11, 0) := by decide +kernel
theorem at29_4 : jm_at 29 4 = some (.ifCond .ne 16) := by decide +kernel
theorem u29_0 {S : Option (Nat × (Nat → Int32))} {H : jm_H} {Q : Option Value → jm_H → Prop} {r0 : Nat} {x1 : Int32} (h0 : jm_tg H r0 = 2) : jm_w S 1 29 0 [.ref r0, .int x1] [] H Q = if ¬ (jm_I H r0 11) = 0 then jm_w S 1 29 20 [.ref r0, .int x1] [] H Q else jm_w S 1 29 7 [.ref r0, .int x1] [] H Q := (js1 at29_0 rfl rfl rfl).trans ((jsgI (H := H) at29_1 rv29g_57 (Or.inl rfl) h0 rfl).trans (jsif (P := ¬ (jm_I H r0 11) = 0) at29_4 rfl rfl))
theorem at29_7 : jm_at 29 7 = some (.aload_n 0) := by decide +kernel
theorem at29_8 : jm_at 29 8 = some (.iload_n 1) := by decide +kernel
theorem at29_9 : jm_at 29 9 = some (.putfield 57) := by decide +kernel
theorem rv29p_57 : jm_rv 29 (.putfield 57) = (0, 1, 11, 0) := by decide +kernel
theorem at29_12 : jm_at 29 12 = some (.aload_n 0) := by decide +kernel
theorem at29_13 : jm_at 29 13 = some (.aload_n 0) := by decide +kernel
theorem at29_14 : jm_at 29 14 = some (.getfield 98) := by decide +kernel
theorem rv29g_98 : jm_rv 29 (.getfield 98) = (0, 1, 6, 0) := by decide +kernel
theorem at29_17 : jm_at 29 17 = some (.putfield 66) := by decide +kernel
theorem rv29p_66 : jm_rv 29 (.putfield 66) = (0, 1, 3, 0) := by decide +kernel
theorem u29_7 {S : Option (Nat × (Nat → Int32))} {H : jm_H} {Q : Option Value → jm_H → Prop} {r0 : Nat} {x1 : Int32} (h0 : jm_tg H r0 = 2) : jm_w S 1 29 7 [.ref r0, .int x1] [] H Q = jm_w S 1 29 20 [.ref r0, .int x1] [] (jm_pI (jm_pI H r0 11 x1) r0 3 (jm_I (jm_pI H r0 11 x1) r0 6)) Q := (js1 at29_7 rfl rfl rfl).trans ((js1 at29_8 rfl rfl rfl).trans ((jspI (H := H) at29_9 rv29p_57 rfl h0 rfl).trans ((js1 at29_12 rfl rfl rfl).trans ((js1 at29_13 rfl rfl rfl).trans ((jsgI (H := (jm_pI H r0 11 x1)) at29_14 rv29g_98 (Or.inl rfl) h0 rfl).trans (jspI (H := (jm_pI H r0 11 x1)) at29_17 rv29p_66 rfl h0 rfl))))))
theorem at29_20 : jm_at 29 20 = some (.aload_n 0) := by decide +kernel
theorem at29_21 : jm_at 29 21 = some (.iconst 0) := by decide +kernel
theorem at29_22 : jm_at 29 22 = some (.putfield 47) := by decide +kernel
theorem rv29p_47 : jm_rv 29 (.putfield 47) = (0, 1, 5, 0) := by decide +kernel
theorem at29_25 : jm_at 29 25 = some (.return_) := by decide +kernel
theorem u29_20 {S : Option (Nat × (Nat → Int32))} {H : jm_H} {Q : Option Value → jm_H → Prop} {r0 : Nat} {x1 : Int32} (h0 : jm_tg H r0 = 2) : jm_w S 1 29 20 [.ref r0, .int x1] [] H Q = Q none (jm_pI H r0 5 (0 : Int32)) := (js1 at29_20 rfl rfl rfl).trans ((jsci at29_21 rfl rfl).trans ((jspI (H := H) at29_22 rv29p_47 rfl h0 rfl).trans (jsret_v at29_25 rfl)))
theorem en29 {S : Option (Nat × (Nat → Int32))} {H : jm_H} {Q : Option Value → jm_H → Prop} {r0 : Nat} {x1 : Int32} : jm_c S 29 [.ref r0, .int x1] H Q = jm_w S 1 29 0 [.ref r0, .int x1] [] H Q := rfl
theorem at30_0 : jm_at 30 0 = some (.aload_n 0) := by decide +kernel
theorem at30_1 : jm_at 30 1 = some (.getfield 115) := by decide +kernel
theorem rv30g_115 : jm_rv 30 (.getfield 115) = (0, 1, 7, 0) := by decide +kernel
theorem at30_4 : jm_at 30 4 = some (.lstore_n 3) := by decide +kernel
theorem at30_5 : jm_at 30 5 = some (.aload_n 0) := by decide +kernel
theorem at30_6 : jm_at 30 6 = some (.getfield 98) := by decide +kernel
theorem rv30g_98 : jm_rv 30 (.getfield 98) = (0, 1, 6, 0) := by decide +kernel
theorem at30_9 : jm_at 30 9 = some (.istore 5) := by decide +kernel
theorem at30_11 : jm_at 30 11 = some (.aload_n 0) := by decide +kernel
theorem at30_12 : jm_at 30 12 = some (.iconst 3) := by decide +kernel
theorem at30_13 : jm_at 30 13 = some (.invokevirtual 32) := by decide +kernel
theorem rv30i_32 : jm_rv 30 (.invokevirtual 32) = (2, 28, 0, 0) := by decide +kernel
theorem u30_0 {S : Option (Nat × (Nat → Int32))} {H : jm_H} {Q : Option Value → jm_H → Prop} {r0 : Nat} {x1 x2 : Int32} (h0 : jm_tg H r0 = 2) : jm_w S 5 30 0 [.ref r0, .int x1, .int x2, .null, .null, .null] [] H Q = jm_c S 28 [.ref r0, .int (3 : Int32)] H (fun v G => jm_w S 5 30 16 [.ref r0, .int x1, .int x2, .long (jm_L H r0 7), .null, .int (jm_I H r0 6)] (v.toList ++ []) G Q) := (js1 at30_0 rfl rfl rfl).trans ((jsgL (H := H) at30_1 rv30g_115 rfl h0 rfl).trans ((js1 at30_4 rfl rfl rfl).trans ((js1 at30_5 rfl rfl rfl).trans ((jsgI (H := H) at30_6 rv30g_98 (Or.inl rfl) h0 rfl).trans ((js1 at30_9 rfl rfl rfl).trans ((js1 at30_11 rfl rfl rfl).trans ((jsci at30_12 rfl rfl).trans (jscall (H := H) (as := [.ref r0, .int (3 : Int32)]) (q := []) at30_13 rfl rv30i_32 (jscutV rfl rfl rfl (Nat.le_of_ble_eq_true rfl) rfl h0) rfl (Nat.le_of_ble_eq_true rfl) rfl rfl))))))))
theorem at30_16 : jm_at 30 16 = some (.ifCond .ne 5) := by decide +kernel
theorem u30_16 {S : Option (Nat × (Nat → Int32))} {H : jm_H} {Q : Option Value → jm_H → Prop} {r0 : Nat} {x1 x2 x5 p0 : Int32} {y3 : Int64} : jm_w S 5 30 16 [.ref r0, .int x1, .int x2, .long y3, .null, .int x5] [.int p0] H Q = if ¬ p0 = 0 then jm_w S 5 30 21 [.ref r0, .int x1, .int x2, .long y3, .null, .int x5] [] H Q else jm_w S 5 30 19 [.ref r0, .int x1, .int x2, .long y3, .null, .int x5] [] H Q := jsif (P := ¬ p0 = 0) at30_16 rfl rfl
theorem at30_19 : jm_at 30 19 = some (.iload_n 1) := by decide +kernel
theorem at30_20 : jm_at 30 20 = some (.ireturn) := by decide +kernel
theorem u30_19 {S : Option (Nat × (Nat → Int32))} {H : jm_H} {Q : Option Value → jm_H → Prop} {r0 : Nat} {x1 x2 x5 : Int32} {y3 : Int64} : jm_w S 5 30 19 [.ref r0, .int x1, .int x2, .long y3, .null, .int x5] [] H Q = Q (some (.int x1)) H := (js1 at30_19 rfl rfl rfl).trans (jsret_i at30_20 rfl)
theorem at30_21 : jm_at 30 21 = some (.lload_n 3) := by decide +kernel
theorem at30_22 : jm_at 30 22 = some (.iload_n 1) := by decide +kernel
theorem at30_23 : jm_at 30 23 = some (.i2l) := by decide +kernel
theorem at30_24 : jm_at 30 24 = some (.lcmp) := by decide +kernel
theorem at30_25 : jm_at 30 25 = some (.ifCond .lt 10) := by decide +kernel
theorem u30_21 {S : Option (Nat × (Nat → Int32))} {H : jm_H} {Q : Option Value → jm_H → Prop} {r0 : Nat} {x1 x2 x5 : Int32} {y3 : Int64} : jm_w S 5 30 21 [.ref r0, .int x1, .int x2, .long y3, .null, .int x5] [] H Q = if (lg_cmp y3 (Int32.toInt64 x1)) < 0 then jm_w S 5 30 35 [.ref r0, .int x1, .int x2, .long y3, .null, .int x5] [] H Q else jm_w S 5 30 28 [.ref r0, .int x1, .int x2, .long y3, .null, .int x5] [] H Q := (js1 at30_21 rfl rfl rfl).trans ((js1 at30_22 rfl rfl rfl).trans ((js0 at30_23 rfl rfl rfl).trans ((js0 at30_24 rfl rfl rfl).trans (jsif (P := (lg_cmp y3 (Int32.toInt64 x1)) < 0) at30_25 rfl rfl))))
theorem at30_28 : jm_at 30 28 = some (.lload_n 3) := by decide +kernel
theorem at30_29 : jm_at 30 29 = some (.iload_n 2) := by decide +kernel
theorem at30_30 : jm_at 30 30 = some (.i2l) := by decide +kernel
theorem at30_31 : jm_at 30 31 = some (.lcmp) := by decide +kernel
theorem at30_32 : jm_at 30 32 = some (.ifCond .le 12) := by decide +kernel
theorem u30_28 {S : Option (Nat × (Nat → Int32))} {H : jm_H} {Q : Option Value → jm_H → Prop} {r0 : Nat} {x1 x2 x5 : Int32} {y3 : Int64} : jm_w S 5 30 28 [.ref r0, .int x1, .int x2, .long y3, .null, .int x5] [] H Q = if (lg_cmp y3 (Int32.toInt64 x2)) ≤ 0 then jm_w S 5 30 44 [.ref r0, .int x1, .int x2, .long y3, .null, .int x5] [] H Q else jm_w S 5 30 35 [.ref r0, .int x1, .int x2, .long y3, .null, .int x5] [] H Q := (js1 at30_28 rfl rfl rfl).trans ((js1 at30_29 rfl rfl rfl).trans ((js0 at30_30 rfl rfl rfl).trans ((js0 at30_31 rfl rfl rfl).trans (jsif (P := (lg_cmp y3 (Int32.toInt64 x2)) ≤ 0) at30_32 rfl rfl))))
theorem at30_35 : jm_at 30 35 = some (.aload_n 0) := by decide +kernel
theorem at30_36 : jm_at 30 36 = some (.iconst 5) := by decide +kernel
theorem at30_37 : jm_at 30 37 = some (.iload 5) := by decide +kernel
theorem at30_39 : jm_at 30 39 = some (.invokevirtual 139) := by decide +kernel
theorem rv30i_139 : jm_rv 30 (.invokevirtual 139) = (2, 31, 0, 0) := by decide +kernel
theorem u30_35 {S : Option (Nat × (Nat → Int32))} {H : jm_H} {Q : Option Value → jm_H → Prop} {r0 : Nat} {x1 x2 x5 : Int32} {y3 : Int64} (h0 : jm_tg H r0 = 2) : jm_w S 5 30 35 [.ref r0, .int x1, .int x2, .long y3, .null, .int x5] [] H Q = jm_c S 31 [.ref r0, .int (5 : Int32), .int x5] H (fun v G => jm_w S 5 30 42 [.ref r0, .int x1, .int x2, .long y3, .null, .int x5] (v.toList ++ []) G Q) := (js1 at30_35 rfl rfl rfl).trans ((jsci at30_36 rfl rfl).trans ((js1 at30_37 rfl rfl rfl).trans (jscall (H := H) (as := [.ref r0, .int (5 : Int32), .int x5]) (q := []) at30_39 rfl rv30i_139 (jscutV rfl rfl rfl (Nat.le_of_ble_eq_true rfl) rfl h0) rfl (Nat.le_of_ble_eq_true rfl) rfl rfl)))
theorem at30_42 : jm_at 30 42 = some (.iload_n 1) := by decide +kernel
theorem at30_43 : jm_at 30 43 = some (.ireturn) := by decide +kernel
theorem u30_42 {S : Option (Nat × (Nat → Int32))} {H : jm_H} {Q : Option Value → jm_H → Prop} {r0 : Nat} {x1 x2 x5 : Int32} {y3 : Int64} : jm_w S 5 30 42 [.ref r0, .int x1, .int x2, .long y3, .null, .int x5] [] H Q = Q (some (.int x1)) H := (js1 at30_42 rfl rfl rfl).trans (jsret_i at30_43 rfl)
theorem at30_44 : jm_at 30 44 = some (.lload_n 3) := by decide +kernel
theorem at30_45 : jm_at 30 45 = some (.l2i) := by decide +kernel
theorem at30_46 : jm_at 30 46 = some (.ireturn) := by decide +kernel
theorem u30_44 {S : Option (Nat × (Nat → Int32))} {H : jm_H} {Q : Option Value → jm_H → Prop} {r0 : Nat} {x1 x2 x5 : Int32} {y3 : Int64} : jm_w S 5 30 44 [.ref r0, .int x1, .int x2, .long y3, .null, .int x5] [] H Q = Q (some (.int (Int64.toInt32 y3))) H := (js1 at30_44 rfl rfl rfl).trans ((js0 at30_45 rfl rfl rfl).trans (jsret_i at30_46 rfl))
theorem en30 {S : Option (Nat × (Nat → Int32))} {H : jm_H} {Q : Option Value → jm_H → Prop} {r0 : Nat} {x1 x2 : Int32} : jm_c S 30 [.ref r0, .int x1, .int x2] H Q = jm_w S 5 30 0 [.ref r0, .int x1, .int x2, .null, .null, .null] [] H Q := rfl
theorem at31_0 : jm_at 31 0 = some (.aload_n 0) := by decide +kernel
theorem at31_1 : jm_at 31 1 = some (.getfield 60) := by decide +kernel
theorem rv31g_60 : jm_rv 31 (.getfield 60) = (0, 1, 12, 0) := by decide +kernel
theorem at31_4 : jm_at 31 4 = some (.ifCond .ne 13) := by decide +kernel
theorem u31_0 {S : Option (Nat × (Nat → Int32))} {H : jm_H} {Q : Option Value → jm_H → Prop} {r0 : Nat} {x1 x2 : Int32} (h0 : jm_tg H r0 = 2) : jm_w S 1 31 0 [.ref r0, .int x1, .int x2] [] H Q = if ¬ (jm_I H r0 12) = 0 then jm_w S 1 31 17 [.ref r0, .int x1, .int x2] [] H Q else jm_w S 1 31 7 [.ref r0, .int x1, .int x2] [] H Q := (js1 at31_0 rfl rfl rfl).trans ((jsgI (H := H) at31_1 rv31g_60 (Or.inl rfl) h0 rfl).trans (jsif (P := ¬ (jm_I H r0 12) = 0) at31_4 rfl rfl))
theorem at31_7 : jm_at 31 7 = some (.aload_n 0) := by decide +kernel
theorem at31_8 : jm_at 31 8 = some (.iload_n 1) := by decide +kernel
theorem at31_9 : jm_at 31 9 = some (.putfield 60) := by decide +kernel
theorem rv31p_60 : jm_rv 31 (.putfield 60) = (0, 1, 12, 0) := by decide +kernel
theorem at31_12 : jm_at 31 12 = some (.aload_n 0) := by decide +kernel
theorem at31_13 : jm_at 31 13 = some (.iload_n 2) := by decide +kernel
theorem at31_14 : jm_at 31 14 = some (.putfield 63) := by decide +kernel
theorem rv31p_63 : jm_rv 31 (.putfield 63) = (0, 1, 13, 0) := by decide +kernel
theorem u31_7 {S : Option (Nat × (Nat → Int32))} {H : jm_H} {Q : Option Value → jm_H → Prop} {r0 : Nat} {x1 x2 : Int32} (h0 : jm_tg H r0 = 2) : jm_w S 1 31 7 [.ref r0, .int x1, .int x2] [] H Q = jm_w S 1 31 17 [.ref r0, .int x1, .int x2] [] (jm_pI (jm_pI H r0 12 x1) r0 13 x2) Q := (js1 at31_7 rfl rfl rfl).trans ((js1 at31_8 rfl rfl rfl).trans ((jspI (H := H) at31_9 rv31p_60 rfl h0 rfl).trans ((js1 at31_12 rfl rfl rfl).trans ((js1 at31_13 rfl rfl rfl).trans (jspI (H := (jm_pI H r0 12 x1)) at31_14 rv31p_63 rfl h0 rfl)))))
theorem at31_17 : jm_at 31 17 = some (.return_) := by decide +kernel
theorem u31_17 {S : Option (Nat × (Nat → Int32))} {H : jm_H} {Q : Option Value → jm_H → Prop} {r0 : Nat} {x1 x2 : Int32} : jm_w S 1 31 17 [.ref r0, .int x1, .int x2] [] H Q = Q none H := jsret_v at31_17 rfl
theorem en31 {S : Option (Nat × (Nat → Int32))} {H : jm_H} {Q : Option Value → jm_H → Prop} {r0 : Nat} {x1 x2 : Int32} : jm_c S 31 [.ref r0, .int x1, .int x2] H Q = jm_w S 1 31 0 [.ref r0, .int x1, .int x2] [] H Q := rfl
theorem at32_0 : jm_at 32 0 = some (.aload_n 0) := by decide +kernel
theorem at32_1 : jm_at 32 1 = some (.iconst 5) := by decide +kernel
theorem at32_2 : jm_at 32 2 = some (.invokevirtual 32) := by decide +kernel
theorem rv32i_32 : jm_rv 32 (.invokevirtual 32) = (2, 28, 0, 0) := by decide +kernel
theorem u32_0 {S : Option (Nat × (Nat → Int32))} {H : jm_H} {Q : Option Value → jm_H → Prop} {r0 : Nat} (h0 : jm_tg H r0 = 2) : jm_w S 46 32 0 [.ref r0, .null, .null, .null] [] H Q = jm_c S 28 [.ref r0, .int (5 : Int32)] H (fun v G => jm_w S 46 32 5 [.ref r0, .null, .null, .null] (v.toList ++ []) G Q) := (js1 at32_0 rfl rfl rfl).trans ((jsci at32_1 rfl rfl).trans (jscall (H := H) (as := [.ref r0, .int (5 : Int32)]) (q := []) at32_2 rfl rv32i_32 (jscutV rfl rfl rfl (Nat.le_of_ble_eq_true rfl) rfl h0) rfl (Nat.le_of_ble_eq_true rfl) rfl rfl))
theorem at32_5 : jm_at 32 5 = some (.pop) := by decide +kernel
theorem at32_6 : jm_at 32 6 = some (.aload_n 0) := by decide +kernel
theorem at32_7 : jm_at 32 7 = some (.getfield 115) := by decide +kernel
theorem rv32g_115 : jm_rv 32 (.getfield 115) = (0, 1, 7, 0) := by decide +kernel
theorem at32_10 : jm_at 32 10 = some (.lstore_n 1) := by decide +kernel
theorem at32_11 : jm_at 32 11 = some (.aload_n 0) := by decide +kernel
theorem at32_12 : jm_at 32 12 = some (.getfield 98) := by decide +kernel
theorem rv32g_98 : jm_rv 32 (.getfield 98) = (0, 1, 6, 0) := by decide +kernel
theorem at32_15 : jm_at 32 15 = some (.istore_n 3) := by decide +kernel
theorem at32_16 : jm_at 32 16 = some (.aload_n 0) := by decide +kernel
theorem at32_17 : jm_at 32 17 = some (.iconst 2) := by decide +kernel
theorem at32_18 : jm_at 32 18 = some (.invokevirtual 32) := by decide +kernel
theorem u32_5 {S : Option (Nat × (Nat → Int32))} {H : jm_H} {Q : Option Value → jm_H → Prop} {r0 : Nat} {p0 : Int32} (h0 : jm_tg H r0 = 2) : jm_w S 46 32 5 [.ref r0, .null, .null, .null] [.int p0] H Q = jm_c S 28 [.ref r0, .int (2 : Int32)] H (fun v G => jm_w S 46 32 21 [.ref r0, .long (jm_L H r0 7), .null, .int (jm_I H r0 6)] (v.toList ++ []) G Q) := (js0 at32_5 rfl rfl rfl).trans ((js1 at32_6 rfl rfl rfl).trans ((jsgL (H := H) at32_7 rv32g_115 rfl h0 rfl).trans ((js1 at32_10 rfl rfl rfl).trans ((js1 at32_11 rfl rfl rfl).trans ((jsgI (H := H) at32_12 rv32g_98 (Or.inl rfl) h0 rfl).trans ((js1 at32_15 rfl rfl rfl).trans ((js1 at32_16 rfl rfl rfl).trans ((jsci at32_17 rfl rfl).trans (jscall (H := H) (as := [.ref r0, .int (2 : Int32)]) (q := []) at32_18 rfl rv32i_32 (jscutV rfl rfl rfl (Nat.le_of_ble_eq_true rfl) rfl h0) rfl (Nat.le_of_ble_eq_true rfl) rfl rfl)))))))))
theorem at32_21 : jm_at 32 21 = some (.ifCond .ne 4) := by decide +kernel
theorem u32_21 {S : Option (Nat × (Nat → Int32))} {H : jm_H} {Q : Option Value → jm_H → Prop} {r0 : Nat} {y1 : Int64} {x3 p0 : Int32} : jm_w S 46 32 21 [.ref r0, .long y1, .null, .int x3] [.int p0] H Q = if ¬ p0 = 0 then jm_w S 46 32 25 [.ref r0, .long y1, .null, .int x3] [] H Q else jm_w S 46 32 24 [.ref r0, .long y1, .null, .int x3] [] H Q := jsif (P := ¬ p0 = 0) at32_21 rfl rfl
theorem at32_24 : jm_at 32 24 = some (.return_) := by decide +kernel
theorem u32_24 {S : Option (Nat × (Nat → Int32))} {H : jm_H} {Q : Option Value → jm_H → Prop} {r0 : Nat} {y1 : Int64} {x3 : Int32} : jm_w S 46 32 24 [.ref r0, .long y1, .null, .int x3] [] H Q = Q none H := jsret_v at32_24 rfl
theorem at32_25 : jm_at 32 25 = some (.aload_n 0) := by decide +kernel
theorem at32_26 : jm_at 32 26 = some (.lload_n 1) := by decide +kernel
theorem at32_27 : jm_at 32 27 = some (.invokevirtual 143) := by decide +kernel
theorem rv32i_143 : jm_rv 32 (.invokevirtual 143) = (2, 33, 0, 0) := by decide +kernel
theorem u32_25 {S : Option (Nat × (Nat → Int32))} {H : jm_H} {Q : Option Value → jm_H → Prop} {r0 : Nat} {y1 : Int64} {x3 : Int32} (h0 : jm_tg H r0 = 2) : jm_w S 46 32 25 [.ref r0, .long y1, .null, .int x3] [] H Q = jm_c S 33 [.ref r0, .long y1] H (fun v G => jm_w S 46 32 30 [.ref r0, .long y1, .null, .int x3] (v.toList ++ []) G Q) := (js1 at32_25 rfl rfl rfl).trans ((js1 at32_26 rfl rfl rfl).trans (jscall (H := H) (as := [.ref r0, .long y1]) (q := []) at32_27 rfl rv32i_143 (jscutV rfl rfl rfl (Nat.le_of_ble_eq_true rfl) rfl h0) rfl (Nat.le_of_ble_eq_true rfl) rfl rfl))
theorem at32_30 : jm_at 32 30 = some (.iconst (-1)) := by decide +kernel
theorem at32_31 : jm_at 32 31 = some (.if_icmp .eq 9) := by decide +kernel
theorem u32_30 {S : Option (Nat × (Nat → Int32))} {H : jm_H} {Q : Option Value → jm_H → Prop} {r0 : Nat} {y1 : Int64} {x3 p0 : Int32} : jm_w S 46 32 30 [.ref r0, .long y1, .null, .int x3] [.int p0] H Q = if p0 = (-1 : Int32) then jm_w S 46 32 40 [.ref r0, .long y1, .null, .int x3] [] H Q else jm_w S 46 32 34 [.ref r0, .long y1, .null, .int x3] [] H Q := (jsci at32_30 rfl rfl).trans (jsif (P := p0 = (-1 : Int32)) at32_31 rfl rfl)
theorem at32_34 : jm_at 32 34 = some (.aload_n 0) := by decide +kernel
theorem at32_35 : jm_at 32 35 = some (.iconst 3) := by decide +kernel
theorem at32_36 : jm_at 32 36 = some (.iload_n 3) := by decide +kernel
theorem at32_37 : jm_at 32 37 = some (.invokevirtual 139) := by decide +kernel
theorem rv32i_139 : jm_rv 32 (.invokevirtual 139) = (2, 31, 0, 0) := by decide +kernel
theorem u32_34 {S : Option (Nat × (Nat → Int32))} {H : jm_H} {Q : Option Value → jm_H → Prop} {r0 : Nat} {y1 : Int64} {x3 : Int32} (h0 : jm_tg H r0 = 2) : jm_w S 46 32 34 [.ref r0, .long y1, .null, .int x3] [] H Q = jm_c S 31 [.ref r0, .int (3 : Int32), .int x3] H (fun v G => jm_w S 46 32 40 [.ref r0, .long y1, .null, .int x3] (v.toList ++ []) G Q) := (js1 at32_34 rfl rfl rfl).trans ((jsci at32_35 rfl rfl).trans ((js1 at32_36 rfl rfl rfl).trans (jscall (H := H) (as := [.ref r0, .int (3 : Int32), .int x3]) (q := []) at32_37 rfl rv32i_139 (jscutV rfl rfl rfl (Nat.le_of_ble_eq_true rfl) rfl h0) rfl (Nat.le_of_ble_eq_true rfl) rfl rfl)))
theorem at32_40 : jm_at 32 40 = some (.aload_n 0) := by decide +kernel
theorem at32_41 : jm_at 32 41 = some (.iconst 0) := by decide +kernel
theorem at32_42 : jm_at 32 42 = some (.invokevirtual 146) := by decide +kernel
theorem rv32i_146 : jm_rv 32 (.invokevirtual 146) = (2, 34, 0, 0) := by decide +kernel
theorem u32_40 {S : Option (Nat × (Nat → Int32))} {H : jm_H} {Q : Option Value → jm_H → Prop} {r0 : Nat} {y1 : Int64} {x3 : Int32} (h0 : jm_tg H r0 = 2) : jm_w S 46 32 40 [.ref r0, .long y1, .null, .int x3] [] H Q = jm_c S 34 [.ref r0, .int (0 : Int32)] H (fun v G => jm_w S 46 32 45 [.ref r0, .long y1, .null, .int x3] (v.toList ++ []) G Q) := (js1 at32_40 rfl rfl rfl).trans ((jsci at32_41 rfl rfl).trans (jscall (H := H) (as := [.ref r0, .int (0 : Int32)]) (q := []) at32_42 rfl rv32i_146 (jscutV rfl rfl rfl (Nat.le_of_ble_eq_true rfl) rfl h0) rfl (Nat.le_of_ble_eq_true rfl) rfl rfl))
theorem at32_45 : jm_at 32 45 = some (.aload_n 0) := by decide +kernel
theorem at32_46 : jm_at 32 46 = some (.bipush 59) := by decide +kernel
theorem at32_48 : jm_at 32 48 = some (.invokevirtual 32) := by decide +kernel
theorem u32_45 {S : Option (Nat × (Nat → Int32))} {H : jm_H} {Q : Option Value → jm_H → Prop} {r0 : Nat} {y1 : Int64} {x3 : Int32} (h0 : jm_tg H r0 = 2) : jm_w S 46 32 45 [.ref r0, .long y1, .null, .int x3] [] H Q = jm_c S 28 [.ref r0, .int (59 : Int32)] H (fun v G => jm_w S 46 32 51 [.ref r0, .long y1, .null, .int x3] (v.toList ++ []) G Q) := (js1 at32_45 rfl rfl rfl).trans ((jscb at32_46 rfl rfl).trans (jscall (H := H) (as := [.ref r0, .int (59 : Int32)]) (q := []) at32_48 rfl rv32i_32 (jscutV rfl rfl rfl (Nat.le_of_ble_eq_true rfl) rfl h0) rfl (Nat.le_of_ble_eq_true rfl) rfl rfl))
theorem at32_51 : jm_at 32 51 = some (.pop) := by decide +kernel
theorem at32_52 : jm_at 32 52 = some (.aload_n 0) := by decide +kernel
theorem at32_53 : jm_at 32 53 = some (.getfield 25) := by decide +kernel
theorem rv32g_25 : jm_rv 32 (.getfield 25) = (0, 1, 2, 0) := by decide +kernel
theorem at32_56 : jm_at 32 56 = some (.bipush 9) := by decide +kernel
theorem at32_58 : jm_at 32 58 = some (.aload_n 0) := by decide +kernel
theorem at32_59 : jm_at 32 59 = some (.getfield 25) := by decide +kernel
theorem at32_62 : jm_at 32 62 = some (.getfield 72) := by decide +kernel
theorem rv32g_72 : jm_rv 32 (.getfield 72) = (0, 9, 3, 0) := by decide +kernel
theorem at32_65 : jm_at 32 65 = some (.invokevirtual 149) := by decide +kernel
theorem rv32i_149 : jm_rv 32 (.invokevirtual 149) = (2, 37, 0, 0) := by decide +kernel
theorem u32_51 {S : Option (Nat × (Nat → Int32))} {H : jm_H} {Q : Option Value → jm_H → Prop} {r0 : Nat} {y1 : Int64} {x3 p0 : Int32} (h0 : jm_tg H r0 = 2) (h1 : ¬ jm_R H r0 2 = 0) (h2 : jm_tg H (jm_R H r0 2) = 10) : jm_w S 46 32 51 [.ref r0, .long y1, .null, .int x3] [.int p0] H Q = jm_c S 37 [.ref (jm_R H r0 2), .int (9 : Int32), .int (jm_I H (jm_R H r0 2) 3)] H (fun v G => jm_w S 46 32 68 [.ref r0, .long y1, .null, .int x3] (v.toList ++ []) G Q) := (js0 at32_51 rfl rfl rfl).trans ((js1 at32_52 rfl rfl rfl).trans ((jsgR (H := H) at32_53 rv32g_25 rfl h0 h1 rfl).trans ((jscb at32_56 rfl rfl).trans ((js1 at32_58 rfl rfl rfl).trans ((jsgR (H := H) at32_59 rv32g_25 rfl h0 h1 rfl).trans ((jsgI (H := H) at32_62 rv32g_72 (Or.inl rfl) h2 rfl).trans (jscall (H := H) (as := [.ref (jm_R H r0 2), .int (9 : Int32), .int (jm_I H (jm_R H r0 2) 3)]) (q := []) at32_65 rfl rv32i_149 (jscutV rfl rfl rfl (Nat.le_of_ble_eq_true rfl) rfl h2) rfl (Nat.le_of_ble_eq_true rfl) rfl rfl)))))))
theorem at32_68 : jm_at 32 68 = some (.aload_n 0) := by decide +kernel
theorem at32_69 : jm_at 32 69 = some (.getfield 25) := by decide +kernel
theorem at32_72 : jm_at 32 72 = some (.getfield 72) := by decide +kernel
theorem at32_75 : jm_at 32 75 = some (.aload_n 0) := by decide +kernel
theorem at32_76 : jm_at 32 76 = some (.getfield 18) := by decide +kernel
theorem rv32g_18 : jm_rv 32 (.getfield 18) = (0, 1, 1, 0) := by decide +kernel
theorem at32_79 : jm_at 32 79 = some (.arraylength) := by decide +kernel
theorem at32_80 : jm_at 32 80 = some (.if_icmp .ge 29) := by decide +kernel
theorem u32_68 {S : Option (Nat × (Nat → Int32))} {H : jm_H} {Q : Option Value → jm_H → Prop} {r0 : Nat} {y1 : Int64} {x3 : Int32} (h0 : jm_tg H r0 = 2) (h1 : ¬ jm_R H r0 2 = 0) (h2 : jm_tg H (jm_R H r0 2) = 10) (h3 : ¬ jm_R H r0 1 = 0) (h4 : ¬ (jm_R H r0 1) = 1) (h5 : 100 ≤ jm_tg H (jm_R H r0 1)) : jm_w S 46 32 68 [.ref r0, .long y1, .null, .int x3] [] H Q = if (Int32.ofNat (jm_ln H (jm_R H r0 1))) ≤ (jm_I H (jm_R H r0 2) 3) then jm_w S 46 32 109 [.ref r0, .long y1, .null, .int x3] [] H Q else jm_w S 46 32 83 [.ref r0, .long y1, .null, .int x3] [] H Q := (js1 at32_68 rfl rfl rfl).trans ((jsgR (H := H) at32_69 rv32g_25 rfl h0 h1 rfl).trans ((jsgI (H := H) at32_72 rv32g_72 (Or.inl rfl) h2 rfl).trans ((js1 at32_75 rfl rfl rfl).trans ((jsgR (H := H) at32_76 rv32g_18 rfl h0 h3 rfl).trans ((jsaln (H := H) at32_79 h4 h5 rfl).trans (jsif (P := (Int32.ofNat (jm_ln H (jm_R H r0 1))) ≤ (jm_I H (jm_R H r0 2) 3)) at32_80 rfl rfl))))))
theorem at32_83 : jm_at 32 83 = some (.aload_n 0) := by decide +kernel
theorem at32_84 : jm_at 32 84 = some (.getfield 18) := by decide +kernel
theorem at32_87 : jm_at 32 87 = some (.aload_n 0) := by decide +kernel
theorem at32_88 : jm_at 32 88 = some (.getfield 25) := by decide +kernel
theorem at32_91 : jm_at 32 91 = some (.getfield 72) := by decide +kernel
theorem at32_94 : jm_at 32 94 = some (.lload_n 1) := by decide +kernel
theorem at32_95 : jm_at 32 95 = some (.lastore) := by decide +kernel
theorem at32_96 : jm_at 32 96 = some (.aload_n 0) := by decide +kernel
theorem at32_97 : jm_at 32 97 = some (.getfield 25) := by decide +kernel
theorem at32_100 : jm_at 32 100 = some (.dup) := by decide +kernel
theorem at32_101 : jm_at 32 101 = some (.getfield 72) := by decide +kernel
theorem at32_104 : jm_at 32 104 = some (.iconst 1) := by decide +kernel
theorem at32_105 : jm_at 32 105 = some (.iadd) := by decide +kernel
theorem at32_106 : jm_at 32 106 = some (.putfield 72) := by decide +kernel
theorem rv32p_72 : jm_rv 32 (.putfield 72) = (0, 9, 3, 0) := by decide +kernel
theorem u32_83 {S : Option (Nat × (Nat → Int32))} {H : jm_H} {Q : Option Value → jm_H → Prop} {r0 : Nat} {y1 : Int64} {x3 : Int32} (h0 : jm_tg H r0 = 2) (h1 : ¬ jm_R H r0 1 = 0) (h2 : ¬ jm_R H r0 2 = 0) (h3 : jm_tg H (jm_R H r0 2) = 10) (h4 : ¬ ((jm_I H (jm_R H r0 2) 3) < 0 ∨ jm_ln H (jm_R H r0 1) ≤ Int32.toNatClampNeg (jm_I H (jm_R H r0 2) 3))) (h5 : jm_tg H (jm_R H r0 1) = 101) : jm_w S 46 32 83 [.ref r0, .long y1, .null, .int x3] [] H Q = jm_w S 46 32 109 [.ref r0, .long y1, .null, .int x3] [] (jm_pI (jm_pL H (jm_R H r0 1) (Int32.toNatClampNeg (jm_I H (jm_R H r0 2) 3)) y1) (jm_R H r0 2) 3 ((jm_I H (jm_R H r0 2) 3) + (1 : Int32))) Q := (js1 at32_83 rfl rfl rfl).trans ((jsgR (H := H) at32_84 rv32g_18 rfl h0 h1 rfl).trans ((js1 at32_87 rfl rfl rfl).trans ((jsgR (H := H) at32_88 rv32g_25 rfl h0 h2 rfl).trans ((jsgI (H := H) at32_91 rv32g_72 (Or.inl rfl) h3 rfl).trans ((js1 at32_94 rfl rfl rfl).trans ((jslas (H := H) at32_95 h5 h4 rfl).trans ((js1 at32_96 rfl rfl rfl).trans ((jsgR (H := (jm_pL H (jm_R H r0 1) (Int32.toNatClampNeg (jm_I H (jm_R H r0 2) 3)) y1)) at32_97 rv32g_25 rfl h0 h2 rfl).trans ((js0 at32_100 rfl rfl rfl).trans ((jsgI (H := (jm_pL H (jm_R H r0 1) (Int32.toNatClampNeg (jm_I H (jm_R H r0 2) 3)) y1)) at32_101 rv32g_72 (Or.inl rfl) h3 rfl).trans ((jsci at32_104 rfl rfl).trans ((js0 at32_105 rfl rfl rfl).trans (jspI (H := (jm_pL H (jm_R H r0 1) (Int32.toNatClampNeg (jm_I H (jm_R H r0 2) 3)) y1)) at32_106 rv32p_72 rfl h3 rfl)))))))))))))
theorem at32_109 : jm_at 32 109 = some (.return_) := by decide +kernel
theorem u32_109 {S : Option (Nat × (Nat → Int32))} {H : jm_H} {Q : Option Value → jm_H → Prop} {r0 : Nat} {y1 : Int64} {x3 : Int32} : jm_w S 46 32 109 [.ref r0, .long y1, .null, .int x3] [] H Q = Q none H := jsret_v at32_109 rfl
theorem en32 {S : Option (Nat × (Nat → Int32))} {H : jm_H} {Q : Option Value → jm_H → Prop} {r0 : Nat} : jm_c S 32 [.ref r0] H Q = jm_w S 46 32 0 [.ref r0, .null, .null, .null] [] H Q := rfl
theorem at33_0 : jm_at 33 0 = some (.iconst 0) := by decide +kernel
theorem at33_1 : jm_at 33 1 = some (.istore_n 3) := by decide +kernel
theorem u33_0 {S : Option (Nat × (Nat → Int32))} {H : jm_H} {Q : Option Value → jm_H → Prop} {r0 : Nat} {y1 : Int64} : jm_w S 1 33 0 [.ref r0, .long y1, .null, .null] [] H Q = jm_w S 1 33 2 [.ref r0, .long y1, .null, .int (0 : Int32)] [] H Q := (jsci at33_0 rfl rfl).trans (js1 at33_1 rfl rfl rfl)
theorem at33_2 : jm_at 33 2 = some (.iload_n 3) := by decide +kernel
theorem at33_3 : jm_at 33 3 = some (.aload_n 0) := by decide +kernel
theorem at33_4 : jm_at 33 4 = some (.getfield 25) := by decide +kernel
theorem rv33g_25 : jm_rv 33 (.getfield 25) = (0, 1, 2, 0) := by decide +kernel
theorem at33_7 : jm_at 33 7 = some (.getfield 72) := by decide +kernel
theorem rv33g_72 : jm_rv 33 (.getfield 72) = (0, 9, 3, 0) := by decide +kernel
theorem at33_10 : jm_at 33 10 = some (.if_icmp .ge 31) := by decide +kernel
theorem u33_2 {S : Option (Nat × (Nat → Int32))} {H : jm_H} {Q : Option Value → jm_H → Prop} {r0 : Nat} {y1 : Int64} {x3 : Int32} (h0 : jm_tg H r0 = 2) (h1 : ¬ jm_R H r0 2 = 0) (h2 : jm_tg H (jm_R H r0 2) = 10) : jm_w S 1 33 2 [.ref r0, .long y1, .null, .int x3] [] H Q = if (jm_I H (jm_R H r0 2) 3) ≤ x3 then jm_w S 1 33 41 [.ref r0, .long y1, .null, .int x3] [] H Q else jm_w S 1 33 13 [.ref r0, .long y1, .null, .int x3] [] H Q := (js1 at33_2 rfl rfl rfl).trans ((js1 at33_3 rfl rfl rfl).trans ((jsgR (H := H) at33_4 rv33g_25 rfl h0 h1 rfl).trans ((jsgI (H := H) at33_7 rv33g_72 (Or.inl rfl) h2 rfl).trans (jsif (P := (jm_I H (jm_R H r0 2) 3) ≤ x3) at33_10 rfl rfl))))
theorem at33_13 : jm_at 33 13 = some (.iload_n 3) := by decide +kernel
theorem at33_14 : jm_at 33 14 = some (.aload_n 0) := by decide +kernel
theorem at33_15 : jm_at 33 15 = some (.getfield 18) := by decide +kernel
theorem rv33g_18 : jm_rv 33 (.getfield 18) = (0, 1, 1, 0) := by decide +kernel
theorem at33_18 : jm_at 33 18 = some (.arraylength) := by decide +kernel
theorem at33_19 : jm_at 33 19 = some (.if_icmp .ge 22) := by decide +kernel
theorem u33_13 {S : Option (Nat × (Nat → Int32))} {H : jm_H} {Q : Option Value → jm_H → Prop} {r0 : Nat} {y1 : Int64} {x3 : Int32} (h0 : jm_tg H r0 = 2) (h1 : ¬ jm_R H r0 1 = 0) (h2 : ¬ (jm_R H r0 1) = 1) (h3 : 100 ≤ jm_tg H (jm_R H r0 1)) : jm_w S 1 33 13 [.ref r0, .long y1, .null, .int x3] [] H Q = if (Int32.ofNat (jm_ln H (jm_R H r0 1))) ≤ x3 then jm_w S 1 33 41 [.ref r0, .long y1, .null, .int x3] [] H Q else jm_w S 1 33 22 [.ref r0, .long y1, .null, .int x3] [] H Q := (js1 at33_13 rfl rfl rfl).trans ((js1 at33_14 rfl rfl rfl).trans ((jsgR (H := H) at33_15 rv33g_18 rfl h0 h1 rfl).trans ((jsaln (H := H) at33_18 h2 h3 rfl).trans (jsif (P := (Int32.ofNat (jm_ln H (jm_R H r0 1))) ≤ x3) at33_19 rfl rfl))))
theorem at33_22 : jm_at 33 22 = some (.aload_n 0) := by decide +kernel
theorem at33_23 : jm_at 33 23 = some (.getfield 18) := by decide +kernel
theorem at33_26 : jm_at 33 26 = some (.iload_n 3) := by decide +kernel
theorem at33_27 : jm_at 33 27 = some (.laload) := by decide +kernel
theorem at33_28 : jm_at 33 28 = some (.lload_n 1) := by decide +kernel
theorem at33_29 : jm_at 33 29 = some (.lcmp) := by decide +kernel
theorem at33_30 : jm_at 33 30 = some (.ifCond .ne 5) := by decide +kernel
theorem u33_22 {S : Option (Nat × (Nat → Int32))} {H : jm_H} {Q : Option Value → jm_H → Prop} {r0 : Nat} {y1 : Int64} {x3 : Int32} (h0 : jm_tg H r0 = 2) (h1 : ¬ jm_R H r0 1 = 0) (h2 : ¬ (x3 < 0 ∨ jm_ln H (jm_R H r0 1) ≤ Int32.toNatClampNeg x3)) (h3 : jm_tg H (jm_R H r0 1) = 101) : jm_w S 1 33 22 [.ref r0, .long y1, .null, .int x3] [] H Q = if ¬ (lg_cmp (jm_L H (jm_R H r0 1) (Int32.toNatClampNeg x3)) y1) = 0 then jm_w S 1 33 35 [.ref r0, .long y1, .null, .int x3] [] H Q else jm_w S 1 33 33 [.ref r0, .long y1, .null, .int x3] [] H Q := (js1 at33_22 rfl rfl rfl).trans ((jsgR (H := H) at33_23 rv33g_18 rfl h0 h1 rfl).trans ((js1 at33_26 rfl rfl rfl).trans ((jslal (H := H) at33_27 h3 h2 rfl).trans ((js1 at33_28 rfl rfl rfl).trans ((js0 at33_29 rfl rfl rfl).trans (jsif (P := ¬ (lg_cmp (jm_L H (jm_R H r0 1) (Int32.toNatClampNeg x3)) y1) = 0) at33_30 rfl rfl))))))
theorem at33_33 : jm_at 33 33 = some (.iload_n 3) := by decide +kernel
theorem at33_34 : jm_at 33 34 = some (.ireturn) := by decide +kernel
theorem u33_33 {S : Option (Nat × (Nat → Int32))} {H : jm_H} {Q : Option Value → jm_H → Prop} {r0 : Nat} {y1 : Int64} {x3 : Int32} : jm_w S 1 33 33 [.ref r0, .long y1, .null, .int x3] [] H Q = Q (some (.int x3)) H := (js1 at33_33 rfl rfl rfl).trans (jsret_i at33_34 rfl)
theorem at33_35 : jm_at 33 35 = some (.iinc 3 1) := by decide +kernel
theorem at33_38 : jm_at 33 38 = some (.goto (-36)) := by decide +kernel
theorem u33_35 {S : Option (Nat × (Nat → Int32))} {H : jm_H} {Q : Option Value → jm_H → Prop} {r0 : Nat} {y1 : Int64} {x3 : Int32} : jm_w S 1 33 35 [.ref r0, .long y1, .null, .int x3] [] H Q = jm_w S 1 33 2 [.ref r0, .long y1, .null, .int (x3 + 1)] [] H Q := (jsinc at33_35 rfl rfl rfl).trans (js2 at33_38 rfl rfl)
theorem at33_41 : jm_at 33 41 = some (.iconst (-1)) := by decide +kernel
theorem at33_42 : jm_at 33 42 = some (.ireturn) := by decide +kernel
theorem u33_41 {S : Option (Nat × (Nat → Int32))} {H : jm_H} {Q : Option Value → jm_H → Prop} {r0 : Nat} {y1 : Int64} {x3 : Int32} : jm_w S 1 33 41 [.ref r0, .long y1, .null, .int x3] [] H Q = Q (some (.int (-1 : Int32))) H := (jsci at33_41 rfl rfl).trans (jsret_i at33_42 rfl)
theorem en33 {S : Option (Nat × (Nat → Int32))} {H : jm_H} {Q : Option Value → jm_H → Prop} {r0 : Nat} {y1 : Int64} : jm_c S 33 [.ref r0, .long y1] H Q = jm_w S 1 33 0 [.ref r0, .long y1, .null, .null] [] H Q := rfl
theorem at34_0 : jm_at 34 0 = some (.iload_n 1) := by decide +kernel
theorem at34_1 : jm_at 34 1 = some (.bipush 8) := by decide +kernel
theorem at34_3 : jm_at 34 3 = some (.if_icmp .le 9) := by decide +kernel
theorem u34_0 {S : Option (Nat × (Nat → Int32))} {D : Nat} {H : jm_H} {Q : Option Value → jm_H → Prop} {r0 : Nat} {x1 : Int32} : jm_w S D 34 0 [.ref r0, .int x1, .null, .null, .null] [] H Q = if x1 ≤ (8 : Int32) then jm_w S D 34 12 [.ref r0, .int x1, .null, .null, .null] [] H Q else jm_w S D 34 6 [.ref r0, .int x1, .null, .null, .null] [] H Q := (js1 at34_0 rfl rfl rfl).trans ((jscb at34_1 rfl rfl).trans (jsif (P := x1 ≤ (8 : Int32)) at34_3 rfl rfl))
theorem at34_6 : jm_at 34 6 = some (.aload_n 0) := by decide +kernel
theorem at34_7 : jm_at 34 7 = some (.iconst 2) := by decide +kernel
theorem at34_8 : jm_at 34 8 = some (.invokevirtual 53) := by decide +kernel
theorem rv34i_53 : jm_rv 34 (.invokevirtual 53) = (2, 29, 0, 0) := by decide +kernel
theorem u34_6 {S : Option (Nat × (Nat → Int32))} {D : Nat} {H : jm_H} {Q : Option Value → jm_H → Prop} {r0 : Nat} {x1 : Int32} (h0 : jm_rk 29 [.ref r0, .int (2 : Int32)] < D) (h1 : jm_tg H r0 = 2) : jm_w S D 34 6 [.ref r0, .int x1, .null, .null, .null] [] H Q = jm_c S 29 [.ref r0, .int (2 : Int32)] H (fun v G => jm_w S D 34 11 [.ref r0, .int x1, .null, .null, .null] (v.toList ++ []) G Q) := (js1 at34_6 rfl rfl rfl).trans ((jsci at34_7 rfl rfl).trans (jscall (H := H) (as := [.ref r0, .int (2 : Int32)]) (q := []) at34_8 rfl rv34i_53 (jscutV rfl rfl rfl (Nat.le_of_ble_eq_true rfl) rfl h1) rfl h0 rfl rfl))
theorem at34_11 : jm_at 34 11 = some (.return_) := by decide +kernel
theorem u34_11 {S : Option (Nat × (Nat → Int32))} {D : Nat} {H : jm_H} {Q : Option Value → jm_H → Prop} {r0 : Nat} {x1 : Int32} : jm_w S D 34 11 [.ref r0, .int x1, .null, .null, .null] [] H Q = Q none H := jsret_v at34_11 rfl
theorem at34_12 : jm_at 34 12 = some (.aload_n 0) := by decide +kernel
theorem at34_13 : jm_at 34 13 = some (.getfield 47) := by decide +kernel
theorem rv34g_47 : jm_rv 34 (.getfield 47) = (0, 1, 5, 0) := by decide +kernel
theorem at34_16 : jm_at 34 16 = some (.bipush 45) := by decide +kernel
theorem at34_18 : jm_at 34 18 = some (.if_icmp .ne 7) := by decide +kernel
theorem u34_12 {S : Option (Nat × (Nat → Int32))} {D : Nat} {H : jm_H} {Q : Option Value → jm_H → Prop} {r0 : Nat} {x1 : Int32} (h0 : jm_tg H r0 = 2) : jm_w S D 34 12 [.ref r0, .int x1, .null, .null, .null] [] H Q = if ¬ (jm_I H r0 5) = (45 : Int32) then jm_w S D 34 25 [.ref r0, .int x1, .null, .null, .null] [] H Q else jm_w S D 34 21 [.ref r0, .int x1, .null, .null, .null] [] H Q := (js1 at34_12 rfl rfl rfl).trans ((jsgI (H := H) at34_13 rv34g_47 (Or.inl rfl) h0 rfl).trans ((jscb at34_16 rfl rfl).trans (jsif (P := ¬ (jm_I H r0 5) = (45 : Int32)) at34_18 rfl rfl)))
theorem at34_21 : jm_at 34 21 = some (.iconst 1) := by decide +kernel
theorem at34_22 : jm_at 34 22 = some (.goto 4) := by decide +kernel
theorem u34_21 {S : Option (Nat × (Nat → Int32))} {D : Nat} {H : jm_H} {Q : Option Value → jm_H → Prop} {r0 : Nat} {x1 : Int32} : jm_w S D 34 21 [.ref r0, .int x1, .null, .null, .null] [] H Q = jm_w S D 34 26 [.ref r0, .int x1, .null, .null, .null] [.int (1 : Int32)] H Q := (jsci at34_21 rfl rfl).trans (js2 at34_22 rfl rfl)
theorem at34_25 : jm_at 34 25 = some (.iconst 0) := by decide +kernel
theorem u34_25 {S : Option (Nat × (Nat → Int32))} {D : Nat} {H : jm_H} {Q : Option Value → jm_H → Prop} {r0 : Nat} {x1 : Int32} : jm_w S D 34 25 [.ref r0, .int x1, .null, .null, .null] [] H Q = jm_w S D 34 26 [.ref r0, .int x1, .null, .null, .null] [.int (0 : Int32)] H Q := jsci at34_25 rfl rfl
theorem at34_26 : jm_at 34 26 = some (.istore_n 2) := by decide +kernel
theorem at34_27 : jm_at 34 27 = some (.iload_n 2) := by decide +kernel
theorem at34_28 : jm_at 34 28 = some (.ifCond .eq 10) := by decide +kernel
theorem u34_26 {S : Option (Nat × (Nat → Int32))} {D : Nat} {H : jm_H} {Q : Option Value → jm_H → Prop} {r0 : Nat} {x1 p0 : Int32} : jm_w S D 34 26 [.ref r0, .int x1, .null, .null, .null] [.int p0] H Q = if p0 = 0 then jm_w S D 34 38 [.ref r0, .int x1, .int p0, .null, .null] [] H Q else jm_w S D 34 31 [.ref r0, .int x1, .int p0, .null, .null] [] H Q := (js1 at34_26 rfl rfl rfl).trans ((js1 at34_27 rfl rfl rfl).trans (jsif (P := p0 = 0) at34_28 rfl rfl))
theorem at34_31 : jm_at 34 31 = some (.aload_n 0) := by decide +kernel
theorem at34_32 : jm_at 34 32 = some (.bipush 45) := by decide +kernel
theorem at34_34 : jm_at 34 34 = some (.invokevirtual 32) := by decide +kernel
theorem rv34i_32 : jm_rv 34 (.invokevirtual 32) = (2, 28, 0, 0) := by decide +kernel
theorem u34_31 {S : Option (Nat × (Nat → Int32))} {D : Nat} {H : jm_H} {Q : Option Value → jm_H → Prop} {r0 : Nat} {x1 x2 : Int32} (h0 : jm_rk 28 [.ref r0, .int (45 : Int32)] < D) (h1 : jm_tg H r0 = 2) : jm_w S D 34 31 [.ref r0, .int x1, .int x2, .null, .null] [] H Q = jm_c S 28 [.ref r0, .int (45 : Int32)] H (fun v G => jm_w S D 34 37 [.ref r0, .int x1, .int x2, .null, .null] (v.toList ++ []) G Q) := (js1 at34_31 rfl rfl rfl).trans ((jscb at34_32 rfl rfl).trans (jscall (H := H) (as := [.ref r0, .int (45 : Int32)]) (q := []) at34_34 rfl rv34i_32 (jscutV rfl rfl rfl (Nat.le_of_ble_eq_true rfl) rfl h1) rfl h0 rfl rfl))
theorem at34_37 : jm_at 34 37 = some (.pop) := by decide +kernel
theorem u34_37 {S : Option (Nat × (Nat → Int32))} {D : Nat} {H : jm_H} {Q : Option Value → jm_H → Prop} {r0 : Nat} {x1 x2 p0 : Int32} : jm_w S D 34 37 [.ref r0, .int x1, .int x2, .null, .null] [.int p0] H Q = jm_w S D 34 38 [.ref r0, .int x1, .int x2, .null, .null] [] H Q := js0 at34_37 rfl rfl rfl
theorem at34_38 : jm_at 34 38 = some (.aload_n 0) := by decide +kernel
theorem at34_39 : jm_at 34 39 = some (.iload_n 1) := by decide +kernel
theorem at34_40 : jm_at 34 40 = some (.invokevirtual 152) := by decide +kernel
theorem rv34i_152 : jm_rv 34 (.invokevirtual 152) = (2, 35, 0, 0) := by decide +kernel
theorem u34_38 {S : Option (Nat × (Nat → Int32))} {D : Nat} {H : jm_H} {Q : Option Value → jm_H → Prop} {r0 : Nat} {x1 x2 : Int32} (h0 : jm_rk 35 [.ref r0, .int x1] < D) (h1 : jm_tg H r0 = 2) : jm_w S D 34 38 [.ref r0, .int x1, .int x2, .null, .null] [] H Q = jm_c S 35 [.ref r0, .int x1] H (fun v G => jm_w S D 34 43 [.ref r0, .int x1, .int x2, .null, .null] (v.toList ++ []) G Q) := (js1 at34_38 rfl rfl rfl).trans ((js1 at34_39 rfl rfl rfl).trans (jscall (H := H) (as := [.ref r0, .int x1]) (q := []) at34_40 rfl rv34i_152 (jscutV rfl rfl rfl (Nat.le_of_ble_eq_true rfl) rfl h1) rfl h0 rfl rfl))
theorem at34_43 : jm_at 34 43 = some (.iload_n 2) := by decide +kernel
theorem at34_44 : jm_at 34 44 = some (.ifCond .eq 13) := by decide +kernel
theorem u34_43 {S : Option (Nat × (Nat → Int32))} {D : Nat} {H : jm_H} {Q : Option Value → jm_H → Prop} {r0 : Nat} {x1 x2 : Int32} : jm_w S D 34 43 [.ref r0, .int x1, .int x2, .null, .null] [] H Q = if x2 = 0 then jm_w S D 34 57 [.ref r0, .int x1, .int x2, .null, .null] [] H Q else jm_w S D 34 47 [.ref r0, .int x1, .int x2, .null, .null] [] H Q := (js1 at34_43 rfl rfl rfl).trans (jsif (P := x2 = 0) at34_44 rfl rfl)
theorem at34_47 : jm_at 34 47 = some (.aload_n 0) := by decide +kernel
theorem at34_48 : jm_at 34 48 = some (.getfield 25) := by decide +kernel
theorem rv34g_25 : jm_rv 34 (.getfield 25) = (0, 1, 2, 0) := by decide +kernel
theorem at34_51 : jm_at 34 51 = some (.bipush 6) := by decide +kernel
theorem at34_53 : jm_at 34 53 = some (.iconst 0) := by decide +kernel
theorem at34_54 : jm_at 34 54 = some (.invokevirtual 149) := by decide +kernel
theorem rv34i_149 : jm_rv 34 (.invokevirtual 149) = (2, 37, 0, 0) := by decide +kernel
theorem u34_47 {S : Option (Nat × (Nat → Int32))} {D : Nat} {H : jm_H} {Q : Option Value → jm_H → Prop} {r0 : Nat} {x1 x2 : Int32} (h0 : jm_tg H r0 = 2) (h1 : ¬ jm_R H r0 2 = 0) (h2 : jm_rk 37 [.ref (jm_R H r0 2), .int (6 : Int32), .int (0 : Int32)] < D) (h3 : jm_tg H (jm_R H r0 2) = 10) : jm_w S D 34 47 [.ref r0, .int x1, .int x2, .null, .null] [] H Q = jm_c S 37 [.ref (jm_R H r0 2), .int (6 : Int32), .int (0 : Int32)] H (fun v G => jm_w S D 34 57 [.ref r0, .int x1, .int x2, .null, .null] (v.toList ++ []) G Q) := (js1 at34_47 rfl rfl rfl).trans ((jsgR (H := H) at34_48 rv34g_25 rfl h0 h1 rfl).trans ((jscb at34_51 rfl rfl).trans ((jsci at34_53 rfl rfl).trans (jscall (H := H) (as := [.ref (jm_R H r0 2), .int (6 : Int32), .int (0 : Int32)]) (q := []) at34_54 rfl rv34i_149 (jscutV rfl rfl rfl (Nat.le_of_ble_eq_true rfl) rfl h3) rfl h2 rfl rfl))))
theorem at34_57 : jm_at 34 57 = some (.iconst 0) := by decide +kernel
theorem at34_58 : jm_at 34 58 = some (.istore_n 3) := by decide +kernel
theorem u34_57 {S : Option (Nat × (Nat → Int32))} {D : Nat} {H : jm_H} {Q : Option Value → jm_H → Prop} {r0 : Nat} {x1 x2 : Int32} : jm_w S D 34 57 [.ref r0, .int x1, .int x2, .null, .null] [] H Q = jm_w S D 34 59 [.ref r0, .int x1, .int x2, .int (0 : Int32), .null] [] H Q := (jsci at34_57 rfl rfl).trans (js1 at34_58 rfl rfl rfl)
theorem at34_59 : jm_at 34 59 = some (.iload_n 3) := by decide +kernel
theorem at34_60 : jm_at 34 60 = some (.sipush 400) := by decide +kernel
theorem at34_63 : jm_at 34 63 = some (.if_icmp .gt 67) := by decide +kernel
theorem u34_59 {S : Option (Nat × (Nat → Int32))} {D : Nat} {H : jm_H} {Q : Option Value → jm_H → Prop} {r0 : Nat} {x1 x2 x3 : Int32} {w4 : Value} : jm_w S D 34 59 [.ref r0, .int x1, .int x2, .int x3, w4] [] H Q = if (400 : Int32) < x3 then jm_w S D 34 130 [.ref r0, .int x1, .int x2, .int x3, w4] [] H Q else jm_w S D 34 66 [.ref r0, .int x1, .int x2, .int x3, w4] [] H Q := (js1 at34_59 rfl rfl rfl).trans ((jscs at34_60 rfl rfl).trans (jsif (P := (400 : Int32) < x3) at34_63 rfl rfl))
theorem at34_66 : jm_at 34 66 = some (.aload_n 0) := by decide +kernel
theorem at34_67 : jm_at 34 67 = some (.getfield 47) := by decide +kernel
theorem at34_70 : jm_at 34 70 = some (.bipush 43) := by decide +kernel
theorem at34_72 : jm_at 34 72 = some (.if_icmp .eq 12) := by decide +kernel
theorem u34_66 {S : Option (Nat × (Nat → Int32))} {D : Nat} {H : jm_H} {Q : Option Value → jm_H → Prop} {r0 : Nat} {x1 x2 x3 : Int32} {w4 : Value} (h0 : jm_tg H r0 = 2) : jm_w S D 34 66 [.ref r0, .int x1, .int x2, .int x3, w4] [] H Q = if (jm_I H r0 5) = (43 : Int32) then jm_w S D 34 84 [.ref r0, .int x1, .int x2, .int x3, w4] [] H Q else jm_w S D 34 75 [.ref r0, .int x1, .int x2, .int x3, w4] [] H Q := (js1 at34_66 rfl rfl rfl).trans ((jsgI (H := H) at34_67 rv34g_47 (Or.inl rfl) h0 rfl).trans ((jscb at34_70 rfl rfl).trans (jsif (P := (jm_I H r0 5) = (43 : Int32)) at34_72 rfl rfl)))
theorem at34_75 : jm_at 34 75 = some (.aload_n 0) := by decide +kernel
theorem at34_76 : jm_at 34 76 = some (.getfield 47) := by decide +kernel
theorem at34_79 : jm_at 34 79 = some (.bipush 45) := by decide +kernel
theorem at34_81 : jm_at 34 81 = some (.if_icmp .ne 49) := by decide +kernel
theorem u34_75 {S : Option (Nat × (Nat → Int32))} {D : Nat} {H : jm_H} {Q : Option Value → jm_H → Prop} {r0 : Nat} {x1 x2 x3 : Int32} {w4 : Value} (h0 : jm_tg H r0 = 2) : jm_w S D 34 75 [.ref r0, .int x1, .int x2, .int x3, w4] [] H Q = if ¬ (jm_I H r0 5) = (45 : Int32) then jm_w S D 34 130 [.ref r0, .int x1, .int x2, .int x3, w4] [] H Q else jm_w S D 34 84 [.ref r0, .int x1, .int x2, .int x3, w4] [] H Q := (js1 at34_75 rfl rfl rfl).trans ((jsgI (H := H) at34_76 rv34g_47 (Or.inl rfl) h0 rfl).trans ((jscb at34_79 rfl rfl).trans (jsif (P := ¬ (jm_I H r0 5) = (45 : Int32)) at34_81 rfl rfl)))
theorem at34_84 : jm_at 34 84 = some (.aload_n 0) := by decide +kernel
theorem at34_85 : jm_at 34 85 = some (.getfield 47) := by decide +kernel
theorem at34_88 : jm_at 34 88 = some (.bipush 43) := by decide +kernel
theorem at34_90 : jm_at 34 90 = some (.if_icmp .ne 7) := by decide +kernel
theorem u34_84 {S : Option (Nat × (Nat → Int32))} {D : Nat} {H : jm_H} {Q : Option Value → jm_H → Prop} {r0 : Nat} {x1 x2 x3 : Int32} {w4 : Value} (h0 : jm_tg H r0 = 2) : jm_w S D 34 84 [.ref r0, .int x1, .int x2, .int x3, w4] [] H Q = if ¬ (jm_I H r0 5) = (43 : Int32) then jm_w S D 34 97 [.ref r0, .int x1, .int x2, .int x3, w4] [] H Q else jm_w S D 34 93 [.ref r0, .int x1, .int x2, .int x3, w4] [] H Q := (js1 at34_84 rfl rfl rfl).trans ((jsgI (H := H) at34_85 rv34g_47 (Or.inl rfl) h0 rfl).trans ((jscb at34_88 rfl rfl).trans (jsif (P := ¬ (jm_I H r0 5) = (43 : Int32)) at34_90 rfl rfl)))
theorem at34_93 : jm_at 34 93 = some (.iconst 0) := by decide +kernel
theorem at34_94 : jm_at 34 94 = some (.goto 4) := by decide +kernel
theorem u34_93 {S : Option (Nat × (Nat → Int32))} {D : Nat} {H : jm_H} {Q : Option Value → jm_H → Prop} {r0 : Nat} {x1 x2 x3 : Int32} {w4 : Value} : jm_w S D 34 93 [.ref r0, .int x1, .int x2, .int x3, w4] [] H Q = jm_w S D 34 98 [.ref r0, .int x1, .int x2, .int x3, w4] [.int (0 : Int32)] H Q := (jsci at34_93 rfl rfl).trans (js2 at34_94 rfl rfl)
theorem at34_97 : jm_at 34 97 = some (.iconst 1) := by decide +kernel
theorem u34_97 {S : Option (Nat × (Nat → Int32))} {D : Nat} {H : jm_H} {Q : Option Value → jm_H → Prop} {r0 : Nat} {x1 x2 x3 : Int32} {w4 : Value} : jm_w S D 34 97 [.ref r0, .int x1, .int x2, .int x3, w4] [] H Q = jm_w S D 34 98 [.ref r0, .int x1, .int x2, .int x3, w4] [.int (1 : Int32)] H Q := jsci at34_97 rfl rfl
theorem at34_98 : jm_at 34 98 = some (.istore 4) := by decide +kernel
theorem at34_100 : jm_at 34 100 = some (.aload_n 0) := by decide +kernel
theorem at34_101 : jm_at 34 101 = some (.aload_n 0) := by decide +kernel
theorem at34_102 : jm_at 34 102 = some (.getfield 47) := by decide +kernel
theorem at34_105 : jm_at 34 105 = some (.invokevirtual 32) := by decide +kernel
theorem u34_98 {S : Option (Nat × (Nat → Int32))} {D : Nat} {H : jm_H} {Q : Option Value → jm_H → Prop} {r0 : Nat} {x1 x2 x3 p0 : Int32} {w4 : Value} (h0 : jm_tg H r0 = 2) (h1 : jm_rk 28 [.ref r0, .int (jm_I H r0 5)] < D) : jm_w S D 34 98 [.ref r0, .int x1, .int x2, .int x3, w4] [.int p0] H Q = jm_c S 28 [.ref r0, .int (jm_I H r0 5)] H (fun v G => jm_w S D 34 108 [.ref r0, .int x1, .int x2, .int x3, .int p0] (v.toList ++ []) G Q) := (js1 at34_98 rfl rfl rfl).trans ((js1 at34_100 rfl rfl rfl).trans ((js1 at34_101 rfl rfl rfl).trans ((jsgI (H := H) at34_102 rv34g_47 (Or.inl rfl) h0 rfl).trans (jscall (H := H) (as := [.ref r0, .int (jm_I H r0 5)]) (q := []) at34_105 rfl rv34i_32 (jscutV rfl rfl rfl (Nat.le_of_ble_eq_true rfl) rfl h0) rfl h1 rfl rfl))))
theorem at34_108 : jm_at 34 108 = some (.pop) := by decide +kernel
theorem at34_109 : jm_at 34 109 = some (.aload_n 0) := by decide +kernel
theorem at34_110 : jm_at 34 110 = some (.iload_n 1) := by decide +kernel
theorem at34_111 : jm_at 34 111 = some (.invokevirtual 152) := by decide +kernel
theorem u34_108 {S : Option (Nat × (Nat → Int32))} {D : Nat} {H : jm_H} {Q : Option Value → jm_H → Prop} {r0 : Nat} {x1 x2 x3 x4 p0 : Int32} (h0 : jm_rk 35 [.ref r0, .int x1] < D) (h1 : jm_tg H r0 = 2) : jm_w S D 34 108 [.ref r0, .int x1, .int x2, .int x3, .int x4] [.int p0] H Q = jm_c S 35 [.ref r0, .int x1] H (fun v G => jm_w S D 34 114 [.ref r0, .int x1, .int x2, .int x3, .int x4] (v.toList ++ []) G Q) := (js0 at34_108 rfl rfl rfl).trans ((js1 at34_109 rfl rfl rfl).trans ((js1 at34_110 rfl rfl rfl).trans (jscall (H := H) (as := [.ref r0, .int x1]) (q := []) at34_111 rfl rv34i_152 (jscutV rfl rfl rfl (Nat.le_of_ble_eq_true rfl) rfl h1) rfl h0 rfl rfl)))
theorem at34_114 : jm_at 34 114 = some (.aload_n 0) := by decide +kernel
theorem at34_115 : jm_at 34 115 = some (.getfield 25) := by decide +kernel
theorem at34_118 : jm_at 34 118 = some (.iload 4) := by decide +kernel
theorem at34_120 : jm_at 34 120 = some (.iconst 0) := by decide +kernel
theorem at34_121 : jm_at 34 121 = some (.invokevirtual 149) := by decide +kernel
theorem u34_114 {S : Option (Nat × (Nat → Int32))} {D : Nat} {H : jm_H} {Q : Option Value → jm_H → Prop} {r0 : Nat} {x1 x2 x3 x4 : Int32} (h0 : jm_tg H r0 = 2) (h1 : ¬ jm_R H r0 2 = 0) (h2 : jm_rk 37 [.ref (jm_R H r0 2), .int x4, .int (0 : Int32)] < D) (h3 : jm_tg H (jm_R H r0 2) = 10) : jm_w S D 34 114 [.ref r0, .int x1, .int x2, .int x3, .int x4] [] H Q = jm_c S 37 [.ref (jm_R H r0 2), .int x4, .int (0 : Int32)] H (fun v G => jm_w S D 34 124 [.ref r0, .int x1, .int x2, .int x3, .int x4] (v.toList ++ []) G Q) := (js1 at34_114 rfl rfl rfl).trans ((jsgR (H := H) at34_115 rv34g_25 rfl h0 h1 rfl).trans ((js1 at34_118 rfl rfl rfl).trans ((jsci at34_120 rfl rfl).trans (jscall (H := H) (as := [.ref (jm_R H r0 2), .int x4, .int (0 : Int32)]) (q := []) at34_121 rfl rv34i_149 (jscutV rfl rfl rfl (Nat.le_of_ble_eq_true rfl) rfl h3) rfl h2 rfl rfl))))
theorem at34_124 : jm_at 34 124 = some (.iinc 3 1) := by decide +kernel
theorem at34_127 : jm_at 34 127 = some (.goto (-68)) := by decide +kernel
theorem u34_124 {S : Option (Nat × (Nat → Int32))} {D : Nat} {H : jm_H} {Q : Option Value → jm_H → Prop} {r0 : Nat} {x1 x2 x3 x4 : Int32} : jm_w S D 34 124 [.ref r0, .int x1, .int x2, .int x3, .int x4] [] H Q = jm_w S D 34 59 [.ref r0, .int x1, .int x2, .int (x3 + 1), .int x4] [] H Q := (jsinc at34_124 rfl rfl rfl).trans (js2 at34_127 rfl rfl)
theorem at34_130 : jm_at 34 130 = some (.return_) := by decide +kernel
theorem u34_130 {S : Option (Nat × (Nat → Int32))} {D : Nat} {H : jm_H} {Q : Option Value → jm_H → Prop} {r0 : Nat} {x1 x2 x3 : Int32} {w4 : Value} : jm_w S D 34 130 [.ref r0, .int x1, .int x2, .int x3, w4] [] H Q = Q none H := jsret_v at34_130 rfl
theorem en34 {S : Option (Nat × (Nat → Int32))} {H : jm_H} {Q : Option Value → jm_H → Prop} {r0 : Nat} {x1 : Int32} : jm_c S 34 [.ref r0, .int x1] H Q = jm_w S (jm_rk 34 [.ref r0, .int x1]) 34 0 [.ref r0, .int x1, .null, .null, .null] [] H Q := rfl
theorem at35_0 : jm_at 35 0 = some (.aload_n 0) := by decide +kernel
theorem at35_1 : jm_at 35 1 = some (.iload_n 1) := by decide +kernel
theorem at35_2 : jm_at 35 2 = some (.invokevirtual 155) := by decide +kernel
theorem rv35i_155 : jm_rv 35 (.invokevirtual 155) = (2, 36, 0, 0) := by decide +kernel
theorem u35_0 {S : Option (Nat × (Nat → Int32))} {D : Nat} {H : jm_H} {Q : Option Value → jm_H → Prop} {r0 : Nat} {x1 : Int32} (h0 : jm_rk 36 [.ref r0, .int x1] < D) (h1 : jm_tg H r0 = 2) : jm_w S D 35 0 [.ref r0, .int x1, .null, .null] [] H Q = jm_c S 36 [.ref r0, .int x1] H (fun v G => jm_w S D 35 5 [.ref r0, .int x1, .null, .null] (v.toList ++ []) G Q) := (js1 at35_0 rfl rfl rfl).trans ((js1 at35_1 rfl rfl rfl).trans (jscall (H := H) (as := [.ref r0, .int x1]) (q := []) at35_2 rfl rv35i_155 (jscutV rfl rfl rfl (Nat.le_of_ble_eq_true rfl) rfl h1) rfl h0 rfl rfl))
theorem at35_5 : jm_at 35 5 = some (.iconst 0) := by decide +kernel
theorem at35_6 : jm_at 35 6 = some (.istore_n 2) := by decide +kernel
theorem u35_5 {S : Option (Nat × (Nat → Int32))} {D : Nat} {H : jm_H} {Q : Option Value → jm_H → Prop} {r0 : Nat} {x1 : Int32} : jm_w S D 35 5 [.ref r0, .int x1, .null, .null] [] H Q = jm_w S D 35 7 [.ref r0, .int x1, .int (0 : Int32), .null] [] H Q := (jsci at35_5 rfl rfl).trans (js1 at35_6 rfl rfl rfl)
theorem at35_7 : jm_at 35 7 = some (.iload_n 2) := by decide +kernel
theorem at35_8 : jm_at 35 8 = some (.sipush 400) := by decide +kernel
theorem at35_11 : jm_at 35 11 = some (.if_icmp .gt 65) := by decide +kernel
theorem u35_7 {S : Option (Nat × (Nat → Int32))} {D : Nat} {H : jm_H} {Q : Option Value → jm_H → Prop} {r0 : Nat} {x1 x2 : Int32} {w3 : Value} : jm_w S D 35 7 [.ref r0, .int x1, .int x2, w3] [] H Q = if (400 : Int32) < x2 then jm_w S D 35 76 [.ref r0, .int x1, .int x2, w3] [] H Q else jm_w S D 35 14 [.ref r0, .int x1, .int x2, w3] [] H Q := (js1 at35_7 rfl rfl rfl).trans ((jscs at35_8 rfl rfl).trans (jsif (P := (400 : Int32) < x2) at35_11 rfl rfl))
theorem at35_14 : jm_at 35 14 = some (.aload_n 0) := by decide +kernel
theorem at35_15 : jm_at 35 15 = some (.getfield 47) := by decide +kernel
theorem rv35g_47 : jm_rv 35 (.getfield 47) = (0, 1, 5, 0) := by decide +kernel
theorem at35_18 : jm_at 35 18 = some (.bipush 42) := by decide +kernel
theorem at35_20 : jm_at 35 20 = some (.if_icmp .eq 12) := by decide +kernel
theorem u35_14 {S : Option (Nat × (Nat → Int32))} {D : Nat} {H : jm_H} {Q : Option Value → jm_H → Prop} {r0 : Nat} {x1 x2 : Int32} {w3 : Value} (h0 : jm_tg H r0 = 2) : jm_w S D 35 14 [.ref r0, .int x1, .int x2, w3] [] H Q = if (jm_I H r0 5) = (42 : Int32) then jm_w S D 35 32 [.ref r0, .int x1, .int x2, w3] [] H Q else jm_w S D 35 23 [.ref r0, .int x1, .int x2, w3] [] H Q := (js1 at35_14 rfl rfl rfl).trans ((jsgI (H := H) at35_15 rv35g_47 (Or.inl rfl) h0 rfl).trans ((jscb at35_18 rfl rfl).trans (jsif (P := (jm_I H r0 5) = (42 : Int32)) at35_20 rfl rfl)))
theorem at35_23 : jm_at 35 23 = some (.aload_n 0) := by decide +kernel
theorem at35_24 : jm_at 35 24 = some (.getfield 47) := by decide +kernel
theorem at35_27 : jm_at 35 27 = some (.bipush 47) := by decide +kernel
theorem at35_29 : jm_at 35 29 = some (.if_icmp .ne 47) := by decide +kernel
theorem u35_23 {S : Option (Nat × (Nat → Int32))} {D : Nat} {H : jm_H} {Q : Option Value → jm_H → Prop} {r0 : Nat} {x1 x2 : Int32} {w3 : Value} (h0 : jm_tg H r0 = 2) : jm_w S D 35 23 [.ref r0, .int x1, .int x2, w3] [] H Q = if ¬ (jm_I H r0 5) = (47 : Int32) then jm_w S D 35 76 [.ref r0, .int x1, .int x2, w3] [] H Q else jm_w S D 35 32 [.ref r0, .int x1, .int x2, w3] [] H Q := (js1 at35_23 rfl rfl rfl).trans ((jsgI (H := H) at35_24 rv35g_47 (Or.inl rfl) h0 rfl).trans ((jscb at35_27 rfl rfl).trans (jsif (P := ¬ (jm_I H r0 5) = (47 : Int32)) at35_29 rfl rfl)))
theorem at35_32 : jm_at 35 32 = some (.aload_n 0) := by decide +kernel
theorem at35_33 : jm_at 35 33 = some (.getfield 47) := by decide +kernel
theorem at35_36 : jm_at 35 36 = some (.bipush 42) := by decide +kernel
theorem at35_38 : jm_at 35 38 = some (.if_icmp .ne 7) := by decide +kernel
theorem u35_32 {S : Option (Nat × (Nat → Int32))} {D : Nat} {H : jm_H} {Q : Option Value → jm_H → Prop} {r0 : Nat} {x1 x2 : Int32} {w3 : Value} (h0 : jm_tg H r0 = 2) : jm_w S D 35 32 [.ref r0, .int x1, .int x2, w3] [] H Q = if ¬ (jm_I H r0 5) = (42 : Int32) then jm_w S D 35 45 [.ref r0, .int x1, .int x2, w3] [] H Q else jm_w S D 35 41 [.ref r0, .int x1, .int x2, w3] [] H Q := (js1 at35_32 rfl rfl rfl).trans ((jsgI (H := H) at35_33 rv35g_47 (Or.inl rfl) h0 rfl).trans ((jscb at35_36 rfl rfl).trans (jsif (P := ¬ (jm_I H r0 5) = (42 : Int32)) at35_38 rfl rfl)))
theorem at35_41 : jm_at 35 41 = some (.iconst 2) := by decide +kernel
theorem at35_42 : jm_at 35 42 = some (.goto 4) := by decide +kernel
theorem u35_41 {S : Option (Nat × (Nat → Int32))} {D : Nat} {H : jm_H} {Q : Option Value → jm_H → Prop} {r0 : Nat} {x1 x2 : Int32} {w3 : Value} : jm_w S D 35 41 [.ref r0, .int x1, .int x2, w3] [] H Q = jm_w S D 35 46 [.ref r0, .int x1, .int x2, w3] [.int (2 : Int32)] H Q := (jsci at35_41 rfl rfl).trans (js2 at35_42 rfl rfl)
theorem at35_45 : jm_at 35 45 = some (.iconst 3) := by decide +kernel
theorem u35_45 {S : Option (Nat × (Nat → Int32))} {D : Nat} {H : jm_H} {Q : Option Value → jm_H → Prop} {r0 : Nat} {x1 x2 : Int32} {w3 : Value} : jm_w S D 35 45 [.ref r0, .int x1, .int x2, w3] [] H Q = jm_w S D 35 46 [.ref r0, .int x1, .int x2, w3] [.int (3 : Int32)] H Q := jsci at35_45 rfl rfl
theorem at35_46 : jm_at 35 46 = some (.istore_n 3) := by decide +kernel
theorem at35_47 : jm_at 35 47 = some (.aload_n 0) := by decide +kernel
theorem at35_48 : jm_at 35 48 = some (.aload_n 0) := by decide +kernel
theorem at35_49 : jm_at 35 49 = some (.getfield 47) := by decide +kernel
theorem at35_52 : jm_at 35 52 = some (.invokevirtual 32) := by decide +kernel
theorem rv35i_32 : jm_rv 35 (.invokevirtual 32) = (2, 28, 0, 0) := by decide +kernel
theorem u35_46 {S : Option (Nat × (Nat → Int32))} {D : Nat} {H : jm_H} {Q : Option Value → jm_H → Prop} {r0 : Nat} {x1 x2 p0 : Int32} {w3 : Value} (h0 : jm_tg H r0 = 2) (h1 : jm_rk 28 [.ref r0, .int (jm_I H r0 5)] < D) : jm_w S D 35 46 [.ref r0, .int x1, .int x2, w3] [.int p0] H Q = jm_c S 28 [.ref r0, .int (jm_I H r0 5)] H (fun v G => jm_w S D 35 55 [.ref r0, .int x1, .int x2, .int p0] (v.toList ++ []) G Q) := (js1 at35_46 rfl rfl rfl).trans ((js1 at35_47 rfl rfl rfl).trans ((js1 at35_48 rfl rfl rfl).trans ((jsgI (H := H) at35_49 rv35g_47 (Or.inl rfl) h0 rfl).trans (jscall (H := H) (as := [.ref r0, .int (jm_I H r0 5)]) (q := []) at35_52 rfl rv35i_32 (jscutV rfl rfl rfl (Nat.le_of_ble_eq_true rfl) rfl h0) rfl h1 rfl rfl))))
theorem at35_55 : jm_at 35 55 = some (.pop) := by decide +kernel
theorem at35_56 : jm_at 35 56 = some (.aload_n 0) := by decide +kernel
theorem at35_57 : jm_at 35 57 = some (.iload_n 1) := by decide +kernel
theorem at35_58 : jm_at 35 58 = some (.invokevirtual 155) := by decide +kernel
theorem u35_55 {S : Option (Nat × (Nat → Int32))} {D : Nat} {H : jm_H} {Q : Option Value → jm_H → Prop} {r0 : Nat} {x1 x2 x3 p0 : Int32} (h0 : jm_rk 36 [.ref r0, .int x1] < D) (h1 : jm_tg H r0 = 2) : jm_w S D 35 55 [.ref r0, .int x1, .int x2, .int x3] [.int p0] H Q = jm_c S 36 [.ref r0, .int x1] H (fun v G => jm_w S D 35 61 [.ref r0, .int x1, .int x2, .int x3] (v.toList ++ []) G Q) := (js0 at35_55 rfl rfl rfl).trans ((js1 at35_56 rfl rfl rfl).trans ((js1 at35_57 rfl rfl rfl).trans (jscall (H := H) (as := [.ref r0, .int x1]) (q := []) at35_58 rfl rv35i_155 (jscutV rfl rfl rfl (Nat.le_of_ble_eq_true rfl) rfl h1) rfl h0 rfl rfl)))
theorem at35_61 : jm_at 35 61 = some (.aload_n 0) := by decide +kernel
theorem at35_62 : jm_at 35 62 = some (.getfield 25) := by decide +kernel
theorem rv35g_25 : jm_rv 35 (.getfield 25) = (0, 1, 2, 0) := by decide +kernel
theorem at35_65 : jm_at 35 65 = some (.iload_n 3) := by decide +kernel
theorem at35_66 : jm_at 35 66 = some (.iconst 0) := by decide +kernel
theorem at35_67 : jm_at 35 67 = some (.invokevirtual 149) := by decide +kernel
theorem rv35i_149 : jm_rv 35 (.invokevirtual 149) = (2, 37, 0, 0) := by decide +kernel
theorem u35_61 {S : Option (Nat × (Nat → Int32))} {D : Nat} {H : jm_H} {Q : Option Value → jm_H → Prop} {r0 : Nat} {x1 x2 x3 : Int32} (h0 : jm_tg H r0 = 2) (h1 : ¬ jm_R H r0 2 = 0) (h2 : jm_rk 37 [.ref (jm_R H r0 2), .int x3, .int (0 : Int32)] < D) (h3 : jm_tg H (jm_R H r0 2) = 10) : jm_w S D 35 61 [.ref r0, .int x1, .int x2, .int x3] [] H Q = jm_c S 37 [.ref (jm_R H r0 2), .int x3, .int (0 : Int32)] H (fun v G => jm_w S D 35 70 [.ref r0, .int x1, .int x2, .int x3] (v.toList ++ []) G Q) := (js1 at35_61 rfl rfl rfl).trans ((jsgR (H := H) at35_62 rv35g_25 rfl h0 h1 rfl).trans ((js1 at35_65 rfl rfl rfl).trans ((jsci at35_66 rfl rfl).trans (jscall (H := H) (as := [.ref (jm_R H r0 2), .int x3, .int (0 : Int32)]) (q := []) at35_67 rfl rv35i_149 (jscutV rfl rfl rfl (Nat.le_of_ble_eq_true rfl) rfl h3) rfl h2 rfl rfl))))
theorem at35_70 : jm_at 35 70 = some (.iinc 2 1) := by decide +kernel
theorem at35_73 : jm_at 35 73 = some (.goto (-66)) := by decide +kernel
theorem u35_70 {S : Option (Nat × (Nat → Int32))} {D : Nat} {H : jm_H} {Q : Option Value → jm_H → Prop} {r0 : Nat} {x1 x2 x3 : Int32} : jm_w S D 35 70 [.ref r0, .int x1, .int x2, .int x3] [] H Q = jm_w S D 35 7 [.ref r0, .int x1, .int (x2 + 1), .int x3] [] H Q := (jsinc at35_70 rfl rfl rfl).trans (js2 at35_73 rfl rfl)
theorem at35_76 : jm_at 35 76 = some (.return_) := by decide +kernel
theorem u35_76 {S : Option (Nat × (Nat → Int32))} {D : Nat} {H : jm_H} {Q : Option Value → jm_H → Prop} {r0 : Nat} {x1 x2 : Int32} {w3 : Value} : jm_w S D 35 76 [.ref r0, .int x1, .int x2, w3] [] H Q = Q none H := jsret_v at35_76 rfl
theorem en35 {S : Option (Nat × (Nat → Int32))} {H : jm_H} {Q : Option Value → jm_H → Prop} {r0 : Nat} {x1 : Int32} : jm_c S 35 [.ref r0, .int x1] H Q = jm_w S (jm_rk 35 [.ref r0, .int x1]) 35 0 [.ref r0, .int x1, .null, .null] [] H Q := rfl
theorem at36_0 : jm_at 36 0 = some (.aload_n 0) := by decide +kernel
theorem at36_1 : jm_at 36 1 = some (.getfield 47) := by decide +kernel
theorem rv36g_47 : jm_rv 36 (.getfield 47) = (0, 1, 5, 0) := by decide +kernel
theorem u36_0 {S : Option (Nat × (Nat → Int32))} {D : Nat} {H : jm_H} {Q : Option Value → jm_H → Prop} {r0 : Nat} {x1 : Int32} (h0 : jm_tg H r0 = 2) : jm_w S D 36 0 [.ref r0, .int x1] [] H Q = jm_w S D 36 4 [.ref r0, .int x1] [.int (jm_I H r0 5)] H Q := (js1 at36_0 rfl rfl rfl).trans (jsgI (H := H) at36_1 rv36g_47 (Or.inl rfl) h0 rfl)
theorem at36_4 : jm_at 36 4 = some (.lookupswitch 122 #[(2, 74), (3, 52), (6, 89), (7, 114), (40, 81)]) := by decide +kernel
theorem u36_4_2 {S : Option (Nat × (Nat → Int32))} {D : Nat} {H : jm_H} {Q : Option Value → jm_H → Prop} {r0 : Nat} {x1 : Int32} : jm_w S D 36 4 [.ref r0, .int x1] [.int 2] H Q = jm_w S D 36 78 [.ref r0, .int x1] [] H Q := js2 at36_4 rfl rfl
theorem u36_4_3 {S : Option (Nat × (Nat → Int32))} {D : Nat} {H : jm_H} {Q : Option Value → jm_H → Prop} {r0 : Nat} {x1 : Int32} : jm_w S D 36 4 [.ref r0, .int x1] [.int 3] H Q = jm_w S D 36 56 [.ref r0, .int x1] [] H Q := js2 at36_4 rfl rfl
theorem u36_4_6 {S : Option (Nat × (Nat → Int32))} {D : Nat} {H : jm_H} {Q : Option Value → jm_H → Prop} {r0 : Nat} {x1 : Int32} : jm_w S D 36 4 [.ref r0, .int x1] [.int 6] H Q = jm_w S D 36 93 [.ref r0, .int x1] [] H Q := js2 at36_4 rfl rfl
theorem u36_4_7 {S : Option (Nat × (Nat → Int32))} {D : Nat} {H : jm_H} {Q : Option Value → jm_H → Prop} {r0 : Nat} {x1 : Int32} : jm_w S D 36 4 [.ref r0, .int x1] [.int 7] H Q = jm_w S D 36 118 [.ref r0, .int x1] [] H Q := js2 at36_4 rfl rfl
theorem u36_4_40 {S : Option (Nat × (Nat → Int32))} {D : Nat} {H : jm_H} {Q : Option Value → jm_H → Prop} {r0 : Nat} {x1 : Int32} : jm_w S D 36 4 [.ref r0, .int x1] [.int 40] H Q = jm_w S D 36 85 [.ref r0, .int x1] [] H Q := js2 at36_4 rfl rfl
theorem u36_4_d {S : Option (Nat × (Nat → Int32))} {D : Nat} {H : jm_H} {Q : Option Value → jm_H → Prop} {r0 : Nat} {x1 p0 : Int32} (h0 : ¬ p0 = 2) (h1 : ¬ p0 = 3) (h2 : ¬ p0 = 6) (h3 : ¬ p0 = 7) (h4 : ¬ p0 = 40) : jm_w S D 36 4 [.ref r0, .int x1] [.int p0] H Q = jm_w S D 36 126 [.ref r0, .int x1] [] H Q := js2 at36_4 rfl (by unfold jm_br; dsimp only; rw [if_pos (by decide)]; rw [lv_osw (a := 2) h0 (by decide)]; rw [lv_osw (a := 3) h1 (by decide)]; rw [lv_osw (a := 6) h2 (by decide)]; rw [lv_osw (a := 7) h3 (by decide)]; rw [lv_osw (a := 40) h4 (by decide)]; try rfl)
theorem at36_56 : jm_at 36 56 = some (.aload_n 0) := by decide +kernel
theorem at36_57 : jm_at 36 57 = some (.getfield 25) := by decide +kernel
theorem rv36g_25 : jm_rv 36 (.getfield 25) = (0, 1, 2, 0) := by decide +kernel
theorem at36_60 : jm_at 36 60 = some (.iconst 4) := by decide +kernel
theorem at36_61 : jm_at 36 61 = some (.aload_n 0) := by decide +kernel
theorem at36_62 : jm_at 36 62 = some (.getfield 115) := by decide +kernel
theorem rv36g_115 : jm_rv 36 (.getfield 115) = (0, 1, 7, 0) := by decide +kernel
theorem at36_65 : jm_at 36 65 = some (.l2i) := by decide +kernel
theorem at36_66 : jm_at 36 66 = some (.invokevirtual 149) := by decide +kernel
theorem rv36i_149 : jm_rv 36 (.invokevirtual 149) = (2, 37, 0, 0) := by decide +kernel
theorem u36_56 {S : Option (Nat × (Nat → Int32))} {D : Nat} {H : jm_H} {Q : Option Value → jm_H → Prop} {r0 : Nat} {x1 : Int32} (h0 : jm_tg H r0 = 2) (h1 : ¬ jm_R H r0 2 = 0) (h2 : jm_rk 37 [.ref (jm_R H r0 2), .int (4 : Int32), .int (Int64.toInt32 (jm_L H r0 7))] < D) (h3 : jm_tg H (jm_R H r0 2) = 10) : jm_w S D 36 56 [.ref r0, .int x1] [] H Q = jm_c S 37 [.ref (jm_R H r0 2), .int (4 : Int32), .int (Int64.toInt32 (jm_L H r0 7))] H (fun v G => jm_w S D 36 69 [.ref r0, .int x1] (v.toList ++ []) G Q) := (js1 at36_56 rfl rfl rfl).trans ((jsgR (H := H) at36_57 rv36g_25 rfl h0 h1 rfl).trans ((jsci at36_60 rfl rfl).trans ((js1 at36_61 rfl rfl rfl).trans ((jsgL (H := H) at36_62 rv36g_115 rfl h0 rfl).trans ((js0 at36_65 rfl rfl rfl).trans (jscall (H := H) (as := [.ref (jm_R H r0 2), .int (4 : Int32), .int (Int64.toInt32 (jm_L H r0 7))]) (q := []) at36_66 rfl rv36i_149 (jscutV rfl rfl rfl (Nat.le_of_ble_eq_true rfl) rfl h3) rfl h2 rfl rfl))))))
theorem at36_69 : jm_at 36 69 = some (.aload_n 0) := by decide +kernel
theorem at36_70 : jm_at 36 70 = some (.iconst 3) := by decide +kernel
theorem at36_71 : jm_at 36 71 = some (.invokevirtual 32) := by decide +kernel
theorem rv36i_32 : jm_rv 36 (.invokevirtual 32) = (2, 28, 0, 0) := by decide +kernel
theorem u36_69 {S : Option (Nat × (Nat → Int32))} {D : Nat} {H : jm_H} {Q : Option Value → jm_H → Prop} {r0 : Nat} {x1 : Int32} (h0 : jm_rk 28 [.ref r0, .int (3 : Int32)] < D) (h1 : jm_tg H r0 = 2) : jm_w S D 36 69 [.ref r0, .int x1] [] H Q = jm_c S 28 [.ref r0, .int (3 : Int32)] H (fun v G => jm_w S D 36 74 [.ref r0, .int x1] (v.toList ++ []) G Q) := (js1 at36_69 rfl rfl rfl).trans ((jsci at36_70 rfl rfl).trans (jscall (H := H) (as := [.ref r0, .int (3 : Int32)]) (q := []) at36_71 rfl rv36i_32 (jscutV rfl rfl rfl (Nat.le_of_ble_eq_true rfl) rfl h1) rfl h0 rfl rfl))
theorem at36_74 : jm_at 36 74 = some (.pop) := by decide +kernel
theorem at36_75 : jm_at 36 75 = some (.goto 56) := by decide +kernel
theorem u36_74 {S : Option (Nat × (Nat → Int32))} {D : Nat} {H : jm_H} {Q : Option Value → jm_H → Prop} {r0 : Nat} {x1 p0 : Int32} : jm_w S D 36 74 [.ref r0, .int x1] [.int p0] H Q = jm_w S D 36 131 [.ref r0, .int x1] [] H Q := (js0 at36_74 rfl rfl rfl).trans (js2 at36_75 rfl rfl)
theorem at36_78 : jm_at 36 78 = some (.aload_n 0) := by decide +kernel
theorem at36_79 : jm_at 36 79 = some (.invokevirtual 158) := by decide +kernel
theorem rv36i_158 : jm_rv 36 (.invokevirtual 158) = (2, 38, 0, 0) := by decide +kernel
theorem u36_78 {S : Option (Nat × (Nat → Int32))} {D : Nat} {H : jm_H} {Q : Option Value → jm_H → Prop} {r0 : Nat} {x1 : Int32} (h0 : jm_rk 38 [.ref r0] < D) (h1 : jm_tg H r0 = 2) : jm_w S D 36 78 [.ref r0, .int x1] [] H Q = jm_c S 38 [.ref r0] H (fun v G => jm_w S D 36 82 [.ref r0, .int x1] (v.toList ++ []) G Q) := (js1 at36_78 rfl rfl rfl).trans (jscall (H := H) (as := [.ref r0]) (q := []) at36_79 rfl rv36i_158 (jscutV rfl rfl rfl (Nat.le_of_ble_eq_true rfl) rfl h1) rfl h0 rfl rfl)
theorem at36_82 : jm_at 36 82 = some (.goto 49) := by decide +kernel
theorem u36_82 {S : Option (Nat × (Nat → Int32))} {D : Nat} {H : jm_H} {Q : Option Value → jm_H → Prop} {r0 : Nat} {x1 : Int32} : jm_w S D 36 82 [.ref r0, .int x1] [] H Q = jm_w S D 36 131 [.ref r0, .int x1] [] H Q := js2 at36_82 rfl rfl
theorem at36_85 : jm_at 36 85 = some (.aload_n 0) := by decide +kernel
theorem at36_86 : jm_at 36 86 = some (.iload_n 1) := by decide +kernel
theorem at36_87 : jm_at 36 87 = some (.invokevirtual 161) := by decide +kernel
theorem rv36i_161 : jm_rv 36 (.invokevirtual 161) = (2, 39, 0, 0) := by decide +kernel
theorem u36_85 {S : Option (Nat × (Nat → Int32))} {D : Nat} {H : jm_H} {Q : Option Value → jm_H → Prop} {r0 : Nat} {x1 : Int32} (h0 : jm_rk 39 [.ref r0, .int x1] < D) (h1 : jm_tg H r0 = 2) : jm_w S D 36 85 [.ref r0, .int x1] [] H Q = jm_c S 39 [.ref r0, .int x1] H (fun v G => jm_w S D 36 90 [.ref r0, .int x1] (v.toList ++ []) G Q) := (js1 at36_85 rfl rfl rfl).trans ((js1 at36_86 rfl rfl rfl).trans (jscall (H := H) (as := [.ref r0, .int x1]) (q := []) at36_87 rfl rv36i_161 (jscutV rfl rfl rfl (Nat.le_of_ble_eq_true rfl) rfl h1) rfl h0 rfl rfl))
theorem at36_90 : jm_at 36 90 = some (.goto 41) := by decide +kernel
theorem u36_90 {S : Option (Nat × (Nat → Int32))} {D : Nat} {H : jm_H} {Q : Option Value → jm_H → Prop} {r0 : Nat} {x1 : Int32} : jm_w S D 36 90 [.ref r0, .int x1] [] H Q = jm_w S D 36 131 [.ref r0, .int x1] [] H Q := js2 at36_90 rfl rfl
theorem at36_93 : jm_at 36 93 = some (.aload_n 0) := by decide +kernel
theorem at36_94 : jm_at 36 94 = some (.bipush 6) := by decide +kernel
theorem at36_96 : jm_at 36 96 = some (.invokevirtual 32) := by decide +kernel
theorem u36_93 {S : Option (Nat × (Nat → Int32))} {D : Nat} {H : jm_H} {Q : Option Value → jm_H → Prop} {r0 : Nat} {x1 : Int32} (h0 : jm_rk 28 [.ref r0, .int (6 : Int32)] < D) (h1 : jm_tg H r0 = 2) : jm_w S D 36 93 [.ref r0, .int x1] [] H Q = jm_c S 28 [.ref r0, .int (6 : Int32)] H (fun v G => jm_w S D 36 99 [.ref r0, .int x1] (v.toList ++ []) G Q) := (js1 at36_93 rfl rfl rfl).trans ((jscb at36_94 rfl rfl).trans (jscall (H := H) (as := [.ref r0, .int (6 : Int32)]) (q := []) at36_96 rfl rv36i_32 (jscutV rfl rfl rfl (Nat.le_of_ble_eq_true rfl) rfl h1) rfl h0 rfl rfl))
theorem at36_99 : jm_at 36 99 = some (.pop) := by decide +kernel
theorem at36_100 : jm_at 36 100 = some (.aload_n 0) := by decide +kernel
theorem at36_101 : jm_at 36 101 = some (.iload_n 1) := by decide +kernel
theorem at36_102 : jm_at 36 102 = some (.invokevirtual 161) := by decide +kernel
theorem u36_99 {S : Option (Nat × (Nat → Int32))} {D : Nat} {H : jm_H} {Q : Option Value → jm_H → Prop} {r0 : Nat} {x1 p0 : Int32} (h0 : jm_rk 39 [.ref r0, .int x1] < D) (h1 : jm_tg H r0 = 2) : jm_w S D 36 99 [.ref r0, .int x1] [.int p0] H Q = jm_c S 39 [.ref r0, .int x1] H (fun v G => jm_w S D 36 105 [.ref r0, .int x1] (v.toList ++ []) G Q) := (js0 at36_99 rfl rfl rfl).trans ((js1 at36_100 rfl rfl rfl).trans ((js1 at36_101 rfl rfl rfl).trans (jscall (H := H) (as := [.ref r0, .int x1]) (q := []) at36_102 rfl rv36i_161 (jscutV rfl rfl rfl (Nat.le_of_ble_eq_true rfl) rfl h1) rfl h0 rfl rfl)))
theorem at36_105 : jm_at 36 105 = some (.aload_n 0) := by decide +kernel
theorem at36_106 : jm_at 36 106 = some (.getfield 25) := by decide +kernel
theorem at36_109 : jm_at 36 109 = some (.bipush 7) := by decide +kernel
theorem at36_111 : jm_at 36 111 = some (.iconst 0) := by decide +kernel
theorem at36_112 : jm_at 36 112 = some (.invokevirtual 149) := by decide +kernel
theorem u36_105 {S : Option (Nat × (Nat → Int32))} {D : Nat} {H : jm_H} {Q : Option Value → jm_H → Prop} {r0 : Nat} {x1 : Int32} (h0 : jm_tg H r0 = 2) (h1 : ¬ jm_R H r0 2 = 0) (h2 : jm_rk 37 [.ref (jm_R H r0 2), .int (7 : Int32), .int (0 : Int32)] < D) (h3 : jm_tg H (jm_R H r0 2) = 10) : jm_w S D 36 105 [.ref r0, .int x1] [] H Q = jm_c S 37 [.ref (jm_R H r0 2), .int (7 : Int32), .int (0 : Int32)] H (fun v G => jm_w S D 36 115 [.ref r0, .int x1] (v.toList ++ []) G Q) := (js1 at36_105 rfl rfl rfl).trans ((jsgR (H := H) at36_106 rv36g_25 rfl h0 h1 rfl).trans ((jscb at36_109 rfl rfl).trans ((jsci at36_111 rfl rfl).trans (jscall (H := H) (as := [.ref (jm_R H r0 2), .int (7 : Int32), .int (0 : Int32)]) (q := []) at36_112 rfl rv36i_149 (jscutV rfl rfl rfl (Nat.le_of_ble_eq_true rfl) rfl h3) rfl h2 rfl rfl))))
theorem at36_115 : jm_at 36 115 = some (.goto 16) := by decide +kernel
theorem u36_115 {S : Option (Nat × (Nat → Int32))} {D : Nat} {H : jm_H} {Q : Option Value → jm_H → Prop} {r0 : Nat} {x1 : Int32} : jm_w S D 36 115 [.ref r0, .int x1] [] H Q = jm_w S D 36 131 [.ref r0, .int x1] [] H Q := js2 at36_115 rfl rfl
theorem at36_118 : jm_at 36 118 = some (.aload_n 0) := by decide +kernel
theorem at36_119 : jm_at 36 119 = some (.iload_n 1) := by decide +kernel
theorem at36_120 : jm_at 36 120 = some (.invokevirtual 164) := by decide +kernel
theorem rv36i_164 : jm_rv 36 (.invokevirtual 164) = (2, 40, 0, 0) := by decide +kernel
theorem u36_118 {S : Option (Nat × (Nat → Int32))} {D : Nat} {H : jm_H} {Q : Option Value → jm_H → Prop} {r0 : Nat} {x1 : Int32} (h0 : jm_rk 40 [.ref r0, .int x1] < D) (h1 : jm_tg H r0 = 2) : jm_w S D 36 118 [.ref r0, .int x1] [] H Q = jm_c S 40 [.ref r0, .int x1] H (fun v G => jm_w S D 36 123 [.ref r0, .int x1] (v.toList ++ []) G Q) := (js1 at36_118 rfl rfl rfl).trans ((js1 at36_119 rfl rfl rfl).trans (jscall (H := H) (as := [.ref r0, .int x1]) (q := []) at36_120 rfl rv36i_164 (jscutV rfl rfl rfl (Nat.le_of_ble_eq_true rfl) rfl h1) rfl h0 rfl rfl))
theorem at36_123 : jm_at 36 123 = some (.goto 8) := by decide +kernel
theorem u36_123 {S : Option (Nat × (Nat → Int32))} {D : Nat} {H : jm_H} {Q : Option Value → jm_H → Prop} {r0 : Nat} {x1 : Int32} : jm_w S D 36 123 [.ref r0, .int x1] [] H Q = jm_w S D 36 131 [.ref r0, .int x1] [] H Q := js2 at36_123 rfl rfl
theorem at36_126 : jm_at 36 126 = some (.aload_n 0) := by decide +kernel
theorem at36_127 : jm_at 36 127 = some (.iconst 1) := by decide +kernel
theorem at36_128 : jm_at 36 128 = some (.invokevirtual 53) := by decide +kernel
theorem rv36i_53 : jm_rv 36 (.invokevirtual 53) = (2, 29, 0, 0) := by decide +kernel
theorem u36_126 {S : Option (Nat × (Nat → Int32))} {D : Nat} {H : jm_H} {Q : Option Value → jm_H → Prop} {r0 : Nat} {x1 : Int32} (h0 : jm_rk 29 [.ref r0, .int (1 : Int32)] < D) (h1 : jm_tg H r0 = 2) : jm_w S D 36 126 [.ref r0, .int x1] [] H Q = jm_c S 29 [.ref r0, .int (1 : Int32)] H (fun v G => jm_w S D 36 131 [.ref r0, .int x1] (v.toList ++ []) G Q) := (js1 at36_126 rfl rfl rfl).trans ((jsci at36_127 rfl rfl).trans (jscall (H := H) (as := [.ref r0, .int (1 : Int32)]) (q := []) at36_128 rfl rv36i_53 (jscutV rfl rfl rfl (Nat.le_of_ble_eq_true rfl) rfl h1) rfl h0 rfl rfl))
theorem at36_131 : jm_at 36 131 = some (.return_) := by decide +kernel
theorem u36_131 {S : Option (Nat × (Nat → Int32))} {D : Nat} {H : jm_H} {Q : Option Value → jm_H → Prop} {r0 : Nat} {x1 : Int32} : jm_w S D 36 131 [.ref r0, .int x1] [] H Q = Q none H := jsret_v at36_131 rfl
theorem en36 {S : Option (Nat × (Nat → Int32))} {H : jm_H} {Q : Option Value → jm_H → Prop} {r0 : Nat} {x1 : Int32} : jm_c S 36 [.ref r0, .int x1] H Q = jm_w S (jm_rk 36 [.ref r0, .int x1]) 36 0 [.ref r0, .int x1] [] H Q := rfl
theorem at38_0 : jm_at 38 0 = some (.aload_n 0) := by decide +kernel
theorem at38_1 : jm_at 38 1 = some (.aload_n 0) := by decide +kernel
theorem at38_2 : jm_at 38 2 = some (.getfield 115) := by decide +kernel
theorem rv38g_115 : jm_rv 38 (.getfield 115) = (0, 1, 7, 0) := by decide +kernel
theorem at38_5 : jm_at 38 5 = some (.invokevirtual 143) := by decide +kernel
theorem rv38i_143 : jm_rv 38 (.invokevirtual 143) = (2, 33, 0, 0) := by decide +kernel
theorem u38_0 {S : Option (Nat × (Nat → Int32))} {H : jm_H} {Q : Option Value → jm_H → Prop} {r0 : Nat} (h0 : jm_tg H r0 = 2) : jm_w S 5 38 0 [.ref r0, .null] [] H Q = jm_c S 33 [.ref r0, .long (jm_L H r0 7)] H (fun v G => jm_w S 5 38 8 [.ref r0, .null] (v.toList ++ []) G Q) := (js1 at38_0 rfl rfl rfl).trans ((js1 at38_1 rfl rfl rfl).trans ((jsgL (H := H) at38_2 rv38g_115 rfl h0 rfl).trans (jscall (H := H) (as := [.ref r0, .long (jm_L H r0 7)]) (q := []) at38_5 rfl rv38i_143 (jscutV rfl rfl rfl (Nat.le_of_ble_eq_true rfl) rfl h0) rfl (Nat.le_of_ble_eq_true rfl) rfl rfl)))
theorem at38_8 : jm_at 38 8 = some (.istore_n 1) := by decide +kernel
theorem at38_9 : jm_at 38 9 = some (.iload_n 1) := by decide +kernel
theorem at38_10 : jm_at 38 10 = some (.iconst (-1)) := by decide +kernel
theorem at38_11 : jm_at 38 11 = some (.if_icmp .ne 12) := by decide +kernel
theorem u38_8 {S : Option (Nat × (Nat → Int32))} {H : jm_H} {Q : Option Value → jm_H → Prop} {r0 : Nat} {p0 : Int32} : jm_w S 5 38 8 [.ref r0, .null] [.int p0] H Q = if ¬ p0 = (-1 : Int32) then jm_w S 5 38 23 [.ref r0, .int p0] [] H Q else jm_w S 5 38 14 [.ref r0, .int p0] [] H Q := (js1 at38_8 rfl rfl rfl).trans ((js1 at38_9 rfl rfl rfl).trans ((jsci at38_10 rfl rfl).trans (jsif (P := ¬ p0 = (-1 : Int32)) at38_11 rfl rfl)))
theorem at38_14 : jm_at 38 14 = some (.aload_n 0) := by decide +kernel
theorem at38_15 : jm_at 38 15 = some (.iconst 4) := by decide +kernel
theorem at38_16 : jm_at 38 16 = some (.aload_n 0) := by decide +kernel
theorem at38_17 : jm_at 38 17 = some (.getfield 98) := by decide +kernel
theorem rv38g_98 : jm_rv 38 (.getfield 98) = (0, 1, 6, 0) := by decide +kernel
theorem at38_20 : jm_at 38 20 = some (.invokevirtual 139) := by decide +kernel
theorem rv38i_139 : jm_rv 38 (.invokevirtual 139) = (2, 31, 0, 0) := by decide +kernel
theorem u38_14 {S : Option (Nat × (Nat → Int32))} {H : jm_H} {Q : Option Value → jm_H → Prop} {r0 : Nat} {x1 : Int32} (h0 : jm_tg H r0 = 2) : jm_w S 5 38 14 [.ref r0, .int x1] [] H Q = jm_c S 31 [.ref r0, .int (4 : Int32), .int (jm_I H r0 6)] H (fun v G => jm_w S 5 38 23 [.ref r0, .int x1] (v.toList ++ []) G Q) := (js1 at38_14 rfl rfl rfl).trans ((jsci at38_15 rfl rfl).trans ((js1 at38_16 rfl rfl rfl).trans ((jsgI (H := H) at38_17 rv38g_98 (Or.inl rfl) h0 rfl).trans (jscall (H := H) (as := [.ref r0, .int (4 : Int32), .int (jm_I H r0 6)]) (q := []) at38_20 rfl rv38i_139 (jscutV rfl rfl rfl (Nat.le_of_ble_eq_true rfl) rfl h0) rfl (Nat.le_of_ble_eq_true rfl) rfl rfl))))
theorem at38_23 : jm_at 38 23 = some (.aload_n 0) := by decide +kernel
theorem at38_24 : jm_at 38 24 = some (.getfield 25) := by decide +kernel
theorem rv38g_25 : jm_rv 38 (.getfield 25) = (0, 1, 2, 0) := by decide +kernel
theorem at38_27 : jm_at 38 27 = some (.iconst 5) := by decide +kernel
theorem at38_28 : jm_at 38 28 = some (.iload_n 1) := by decide +kernel
theorem at38_29 : jm_at 38 29 = some (.invokevirtual 149) := by decide +kernel
theorem rv38i_149 : jm_rv 38 (.invokevirtual 149) = (2, 37, 0, 0) := by decide +kernel
theorem u38_23 {S : Option (Nat × (Nat → Int32))} {H : jm_H} {Q : Option Value → jm_H → Prop} {r0 : Nat} {x1 : Int32} (h0 : jm_tg H r0 = 2) (h1 : ¬ jm_R H r0 2 = 0) (h2 : jm_tg H (jm_R H r0 2) = 10) : jm_w S 5 38 23 [.ref r0, .int x1] [] H Q = jm_c S 37 [.ref (jm_R H r0 2), .int (5 : Int32), .int x1] H (fun v G => jm_w S 5 38 32 [.ref r0, .int x1] (v.toList ++ []) G Q) := (js1 at38_23 rfl rfl rfl).trans ((jsgR (H := H) at38_24 rv38g_25 rfl h0 h1 rfl).trans ((jsci at38_27 rfl rfl).trans ((js1 at38_28 rfl rfl rfl).trans (jscall (H := H) (as := [.ref (jm_R H r0 2), .int (5 : Int32), .int x1]) (q := []) at38_29 rfl rv38i_149 (jscutV rfl rfl rfl (Nat.le_of_ble_eq_true rfl) rfl h2) rfl (Nat.le_of_ble_eq_true rfl) rfl rfl))))
theorem at38_32 : jm_at 38 32 = some (.aload_n 0) := by decide +kernel
theorem at38_33 : jm_at 38 33 = some (.iconst 2) := by decide +kernel
theorem at38_34 : jm_at 38 34 = some (.invokevirtual 32) := by decide +kernel
theorem rv38i_32 : jm_rv 38 (.invokevirtual 32) = (2, 28, 0, 0) := by decide +kernel
theorem u38_32 {S : Option (Nat × (Nat → Int32))} {H : jm_H} {Q : Option Value → jm_H → Prop} {r0 : Nat} {x1 : Int32} (h0 : jm_tg H r0 = 2) : jm_w S 5 38 32 [.ref r0, .int x1] [] H Q = jm_c S 28 [.ref r0, .int (2 : Int32)] H (fun v G => jm_w S 5 38 37 [.ref r0, .int x1] (v.toList ++ []) G Q) := (js1 at38_32 rfl rfl rfl).trans ((jsci at38_33 rfl rfl).trans (jscall (H := H) (as := [.ref r0, .int (2 : Int32)]) (q := []) at38_34 rfl rv38i_32 (jscutV rfl rfl rfl (Nat.le_of_ble_eq_true rfl) rfl h0) rfl (Nat.le_of_ble_eq_true rfl) rfl rfl))
theorem at38_37 : jm_at 38 37 = some (.pop) := by decide +kernel
theorem at38_38 : jm_at 38 38 = some (.return_) := by decide +kernel
theorem u38_37 {S : Option (Nat × (Nat → Int32))} {H : jm_H} {Q : Option Value → jm_H → Prop} {r0 : Nat} {x1 p0 : Int32} : jm_w S 5 38 37 [.ref r0, .int x1] [.int p0] H Q = Q none H := (js0 at38_37 rfl rfl rfl).trans (jsret_v at38_38 rfl)
theorem en38 {S : Option (Nat × (Nat → Int32))} {H : jm_H} {Q : Option Value → jm_H → Prop} {r0 : Nat} : jm_c S 38 [.ref r0] H Q = jm_w S 5 38 0 [.ref r0, .null] [] H Q := rfl
theorem at39_0 : jm_at 39 0 = some (.aload_n 0) := by decide +kernel
theorem at39_1 : jm_at 39 1 = some (.bipush 40) := by decide +kernel
theorem at39_3 : jm_at 39 3 = some (.invokevirtual 32) := by decide +kernel
theorem rv39i_32 : jm_rv 39 (.invokevirtual 32) = (2, 28, 0, 0) := by decide +kernel
theorem u39_0 {S : Option (Nat × (Nat → Int32))} {D : Nat} {H : jm_H} {Q : Option Value → jm_H → Prop} {r0 : Nat} {x1 : Int32} (h0 : jm_rk 28 [.ref r0, .int (40 : Int32)] < D) (h1 : jm_tg H r0 = 2) : jm_w S D 39 0 [.ref r0, .int x1] [] H Q = jm_c S 28 [.ref r0, .int (40 : Int32)] H (fun v G => jm_w S D 39 6 [.ref r0, .int x1] (v.toList ++ []) G Q) := (js1 at39_0 rfl rfl rfl).trans ((jscb at39_1 rfl rfl).trans (jscall (H := H) (as := [.ref r0, .int (40 : Int32)]) (q := []) at39_3 rfl rv39i_32 (jscutV rfl rfl rfl (Nat.le_of_ble_eq_true rfl) rfl h1) rfl h0 rfl rfl))
theorem at39_6 : jm_at 39 6 = some (.ifCond .eq 17) := by decide +kernel
theorem u39_6 {S : Option (Nat × (Nat → Int32))} {D : Nat} {H : jm_H} {Q : Option Value → jm_H → Prop} {r0 : Nat} {x1 p0 : Int32} : jm_w S D 39 6 [.ref r0, .int x1] [.int p0] H Q = if p0 = 0 then jm_w S D 39 23 [.ref r0, .int x1] [] H Q else jm_w S D 39 9 [.ref r0, .int x1] [] H Q := jsif (P := p0 = 0) at39_6 rfl rfl
theorem at39_9 : jm_at 39 9 = some (.aload_n 0) := by decide +kernel
theorem at39_10 : jm_at 39 10 = some (.iload_n 1) := by decide +kernel
theorem at39_11 : jm_at 39 11 = some (.iconst 1) := by decide +kernel
theorem at39_12 : jm_at 39 12 = some (.iadd) := by decide +kernel
theorem at39_13 : jm_at 39 13 = some (.invokevirtual 146) := by decide +kernel
theorem rv39i_146 : jm_rv 39 (.invokevirtual 146) = (2, 34, 0, 0) := by decide +kernel
theorem u39_9 {S : Option (Nat × (Nat → Int32))} {D : Nat} {H : jm_H} {Q : Option Value → jm_H → Prop} {r0 : Nat} {x1 : Int32} (h0 : jm_rk 34 [.ref r0, .int (x1 + (1 : Int32))] < D) (h1 : jm_tg H r0 = 2) : jm_w S D 39 9 [.ref r0, .int x1] [] H Q = jm_c S 34 [.ref r0, .int (x1 + (1 : Int32))] H (fun v G => jm_w S D 39 16 [.ref r0, .int x1] (v.toList ++ []) G Q) := (js1 at39_9 rfl rfl rfl).trans ((js1 at39_10 rfl rfl rfl).trans ((jsci at39_11 rfl rfl).trans ((js0 at39_12 rfl rfl rfl).trans (jscall (H := H) (as := [.ref r0, .int (x1 + (1 : Int32))]) (q := []) at39_13 rfl rv39i_146 (jscutV rfl rfl rfl (Nat.le_of_ble_eq_true rfl) rfl h1) rfl h0 rfl rfl))))
theorem at39_16 : jm_at 39 16 = some (.aload_n 0) := by decide +kernel
theorem at39_17 : jm_at 39 17 = some (.bipush 41) := by decide +kernel
theorem at39_19 : jm_at 39 19 = some (.invokevirtual 32) := by decide +kernel
theorem u39_16 {S : Option (Nat × (Nat → Int32))} {D : Nat} {H : jm_H} {Q : Option Value → jm_H → Prop} {r0 : Nat} {x1 : Int32} (h0 : jm_rk 28 [.ref r0, .int (41 : Int32)] < D) (h1 : jm_tg H r0 = 2) : jm_w S D 39 16 [.ref r0, .int x1] [] H Q = jm_c S 28 [.ref r0, .int (41 : Int32)] H (fun v G => jm_w S D 39 22 [.ref r0, .int x1] (v.toList ++ []) G Q) := (js1 at39_16 rfl rfl rfl).trans ((jscb at39_17 rfl rfl).trans (jscall (H := H) (as := [.ref r0, .int (41 : Int32)]) (q := []) at39_19 rfl rv39i_32 (jscutV rfl rfl rfl (Nat.le_of_ble_eq_true rfl) rfl h1) rfl h0 rfl rfl))
theorem at39_22 : jm_at 39 22 = some (.pop) := by decide +kernel
theorem u39_22 {S : Option (Nat × (Nat → Int32))} {D : Nat} {H : jm_H} {Q : Option Value → jm_H → Prop} {r0 : Nat} {x1 p0 : Int32} : jm_w S D 39 22 [.ref r0, .int x1] [.int p0] H Q = jm_w S D 39 23 [.ref r0, .int x1] [] H Q := js0 at39_22 rfl rfl rfl
theorem at39_23 : jm_at 39 23 = some (.return_) := by decide +kernel
theorem u39_23 {S : Option (Nat × (Nat → Int32))} {D : Nat} {H : jm_H} {Q : Option Value → jm_H → Prop} {r0 : Nat} {x1 : Int32} : jm_w S D 39 23 [.ref r0, .int x1] [] H Q = Q none H := jsret_v at39_23 rfl
theorem en39 {S : Option (Nat × (Nat → Int32))} {H : jm_H} {Q : Option Value → jm_H → Prop} {r0 : Nat} {x1 : Int32} : jm_c S 39 [.ref r0, .int x1] H Q = jm_w S (jm_rk 39 [.ref r0, .int x1]) 39 0 [.ref r0, .int x1] [] H Q := rfl
theorem at40_0 : jm_at 40 0 = some (.aload_n 0) := by decide +kernel
theorem at40_1 : jm_at 40 1 = some (.bipush 7) := by decide +kernel
theorem at40_3 : jm_at 40 3 = some (.invokevirtual 32) := by decide +kernel
theorem rv40i_32 : jm_rv 40 (.invokevirtual 32) = (2, 28, 0, 0) := by decide +kernel
theorem u40_0 {S : Option (Nat × (Nat → Int32))} {D : Nat} {H : jm_H} {Q : Option Value → jm_H → Prop} {r0 : Nat} {x1 : Int32} (h0 : jm_rk 28 [.ref r0, .int (7 : Int32)] < D) (h1 : jm_tg H r0 = 2) : jm_w S D 40 0 [.ref r0, .int x1, .null] [] H Q = jm_c S 28 [.ref r0, .int (7 : Int32)] H (fun v G => jm_w S D 40 6 [.ref r0, .int x1, .null] (v.toList ++ []) G Q) := (js1 at40_0 rfl rfl rfl).trans ((jscb at40_1 rfl rfl).trans (jscall (H := H) (as := [.ref r0, .int (7 : Int32)]) (q := []) at40_3 rfl rv40i_32 (jscutV rfl rfl rfl (Nat.le_of_ble_eq_true rfl) rfl h1) rfl h0 rfl rfl))
theorem at40_6 : jm_at 40 6 = some (.pop) := by decide +kernel
theorem at40_7 : jm_at 40 7 = some (.aload_n 0) := by decide +kernel
theorem at40_8 : jm_at 40 8 = some (.bipush 40) := by decide +kernel
theorem at40_10 : jm_at 40 10 = some (.invokevirtual 32) := by decide +kernel
theorem u40_6 {S : Option (Nat × (Nat → Int32))} {D : Nat} {H : jm_H} {Q : Option Value → jm_H → Prop} {r0 : Nat} {x1 p0 : Int32} (h0 : jm_rk 28 [.ref r0, .int (40 : Int32)] < D) (h1 : jm_tg H r0 = 2) : jm_w S D 40 6 [.ref r0, .int x1, .null] [.int p0] H Q = jm_c S 28 [.ref r0, .int (40 : Int32)] H (fun v G => jm_w S D 40 13 [.ref r0, .int x1, .null] (v.toList ++ []) G Q) := (js0 at40_6 rfl rfl rfl).trans ((js1 at40_7 rfl rfl rfl).trans ((jscb at40_8 rfl rfl).trans (jscall (H := H) (as := [.ref r0, .int (40 : Int32)]) (q := []) at40_10 rfl rv40i_32 (jscutV rfl rfl rfl (Nat.le_of_ble_eq_true rfl) rfl h1) rfl h0 rfl rfl)))
theorem at40_13 : jm_at 40 13 = some (.ifCond .ne 4) := by decide +kernel
theorem u40_13 {S : Option (Nat × (Nat → Int32))} {D : Nat} {H : jm_H} {Q : Option Value → jm_H → Prop} {r0 : Nat} {x1 p0 : Int32} : jm_w S D 40 13 [.ref r0, .int x1, .null] [.int p0] H Q = if ¬ p0 = 0 then jm_w S D 40 17 [.ref r0, .int x1, .null] [] H Q else jm_w S D 40 16 [.ref r0, .int x1, .null] [] H Q := jsif (P := ¬ p0 = 0) at40_13 rfl rfl
theorem at40_16 : jm_at 40 16 = some (.return_) := by decide +kernel
theorem u40_16 {S : Option (Nat × (Nat → Int32))} {D : Nat} {H : jm_H} {Q : Option Value → jm_H → Prop} {r0 : Nat} {x1 : Int32} : jm_w S D 40 16 [.ref r0, .int x1, .null] [] H Q = Q none H := jsret_v at40_16 rfl
theorem at40_17 : jm_at 40 17 = some (.iconst 0) := by decide +kernel
theorem at40_18 : jm_at 40 18 = some (.istore_n 2) := by decide +kernel
theorem u40_17 {S : Option (Nat × (Nat → Int32))} {D : Nat} {H : jm_H} {Q : Option Value → jm_H → Prop} {r0 : Nat} {x1 : Int32} : jm_w S D 40 17 [.ref r0, .int x1, .null] [] H Q = jm_w S D 40 19 [.ref r0, .int x1, .int (0 : Int32)] [] H Q := (jsci at40_17 rfl rfl).trans (js1 at40_18 rfl rfl rfl)
theorem at40_19 : jm_at 40 19 = some (.iload_n 2) := by decide +kernel
theorem at40_20 : jm_at 40 20 = some (.ifCond .le 10) := by decide +kernel
theorem u40_19 {S : Option (Nat × (Nat → Int32))} {D : Nat} {H : jm_H} {Q : Option Value → jm_H → Prop} {r0 : Nat} {x1 x2 : Int32} : jm_w S D 40 19 [.ref r0, .int x1, .int x2] [] H Q = if x2 ≤ 0 then jm_w S D 40 30 [.ref r0, .int x1, .int x2] [] H Q else jm_w S D 40 23 [.ref r0, .int x1, .int x2] [] H Q := (js1 at40_19 rfl rfl rfl).trans (jsif (P := x2 ≤ 0) at40_20 rfl rfl)
theorem at40_23 : jm_at 40 23 = some (.aload_n 0) := by decide +kernel
theorem at40_24 : jm_at 40 24 = some (.bipush 44) := by decide +kernel
theorem at40_26 : jm_at 40 26 = some (.invokevirtual 32) := by decide +kernel
theorem u40_23 {S : Option (Nat × (Nat → Int32))} {D : Nat} {H : jm_H} {Q : Option Value → jm_H → Prop} {r0 : Nat} {x1 x2 : Int32} (h0 : jm_rk 28 [.ref r0, .int (44 : Int32)] < D) (h1 : jm_tg H r0 = 2) : jm_w S D 40 23 [.ref r0, .int x1, .int x2] [] H Q = jm_c S 28 [.ref r0, .int (44 : Int32)] H (fun v G => jm_w S D 40 29 [.ref r0, .int x1, .int x2] (v.toList ++ []) G Q) := (js1 at40_23 rfl rfl rfl).trans ((jscb at40_24 rfl rfl).trans (jscall (H := H) (as := [.ref r0, .int (44 : Int32)]) (q := []) at40_26 rfl rv40i_32 (jscutV rfl rfl rfl (Nat.le_of_ble_eq_true rfl) rfl h1) rfl h0 rfl rfl))
theorem at40_29 : jm_at 40 29 = some (.pop) := by decide +kernel
theorem u40_29 {S : Option (Nat × (Nat → Int32))} {D : Nat} {H : jm_H} {Q : Option Value → jm_H → Prop} {r0 : Nat} {x1 x2 p0 : Int32} : jm_w S D 40 29 [.ref r0, .int x1, .int x2] [.int p0] H Q = jm_w S D 40 30 [.ref r0, .int x1, .int x2] [] H Q := js0 at40_29 rfl rfl rfl
theorem at40_30 : jm_at 40 30 = some (.aload_n 0) := by decide +kernel
theorem at40_31 : jm_at 40 31 = some (.iload_n 1) := by decide +kernel
theorem at40_32 : jm_at 40 32 = some (.iconst 1) := by decide +kernel
theorem at40_33 : jm_at 40 33 = some (.iadd) := by decide +kernel
theorem at40_34 : jm_at 40 34 = some (.invokevirtual 146) := by decide +kernel
theorem rv40i_146 : jm_rv 40 (.invokevirtual 146) = (2, 34, 0, 0) := by decide +kernel
theorem u40_30 {S : Option (Nat × (Nat → Int32))} {D : Nat} {H : jm_H} {Q : Option Value → jm_H → Prop} {r0 : Nat} {x1 x2 : Int32} (h0 : jm_rk 34 [.ref r0, .int (x1 + (1 : Int32))] < D) (h1 : jm_tg H r0 = 2) : jm_w S D 40 30 [.ref r0, .int x1, .int x2] [] H Q = jm_c S 34 [.ref r0, .int (x1 + (1 : Int32))] H (fun v G => jm_w S D 40 37 [.ref r0, .int x1, .int x2] (v.toList ++ []) G Q) := (js1 at40_30 rfl rfl rfl).trans ((js1 at40_31 rfl rfl rfl).trans ((jsci at40_32 rfl rfl).trans ((js0 at40_33 rfl rfl rfl).trans (jscall (H := H) (as := [.ref r0, .int (x1 + (1 : Int32))]) (q := []) at40_34 rfl rv40i_146 (jscutV rfl rfl rfl (Nat.le_of_ble_eq_true rfl) rfl h1) rfl h0 rfl rfl))))
theorem at40_37 : jm_at 40 37 = some (.aload_n 0) := by decide +kernel
theorem at40_38 : jm_at 40 38 = some (.bipush 44) := by decide +kernel
theorem at40_40 : jm_at 40 40 = some (.invokevirtual 32) := by decide +kernel
theorem u40_37 {S : Option (Nat × (Nat → Int32))} {D : Nat} {H : jm_H} {Q : Option Value → jm_H → Prop} {r0 : Nat} {x1 x2 : Int32} (h0 : jm_rk 28 [.ref r0, .int (44 : Int32)] < D) (h1 : jm_tg H r0 = 2) : jm_w S D 40 37 [.ref r0, .int x1, .int x2] [] H Q = jm_c S 28 [.ref r0, .int (44 : Int32)] H (fun v G => jm_w S D 40 43 [.ref r0, .int x1, .int x2] (v.toList ++ []) G Q) := (js1 at40_37 rfl rfl rfl).trans ((jscb at40_38 rfl rfl).trans (jscall (H := H) (as := [.ref r0, .int (44 : Int32)]) (q := []) at40_40 rfl rv40i_32 (jscutV rfl rfl rfl (Nat.le_of_ble_eq_true rfl) rfl h1) rfl h0 rfl rfl))
theorem at40_43 : jm_at 40 43 = some (.pop) := by decide +kernel
theorem at40_44 : jm_at 40 44 = some (.aload_n 0) := by decide +kernel
theorem at40_45 : jm_at 40 45 = some (.iload_n 1) := by decide +kernel
theorem at40_46 : jm_at 40 46 = some (.iconst 1) := by decide +kernel
theorem at40_47 : jm_at 40 47 = some (.iadd) := by decide +kernel
theorem at40_48 : jm_at 40 48 = some (.invokevirtual 146) := by decide +kernel
theorem u40_43 {S : Option (Nat × (Nat → Int32))} {D : Nat} {H : jm_H} {Q : Option Value → jm_H → Prop} {r0 : Nat} {x1 x2 p0 : Int32} (h0 : jm_rk 34 [.ref r0, .int (x1 + (1 : Int32))] < D) (h1 : jm_tg H r0 = 2) : jm_w S D 40 43 [.ref r0, .int x1, .int x2] [.int p0] H Q = jm_c S 34 [.ref r0, .int (x1 + (1 : Int32))] H (fun v G => jm_w S D 40 51 [.ref r0, .int x1, .int x2] (v.toList ++ []) G Q) := (js0 at40_43 rfl rfl rfl).trans ((js1 at40_44 rfl rfl rfl).trans ((js1 at40_45 rfl rfl rfl).trans ((jsci at40_46 rfl rfl).trans ((js0 at40_47 rfl rfl rfl).trans (jscall (H := H) (as := [.ref r0, .int (x1 + (1 : Int32))]) (q := []) at40_48 rfl rv40i_146 (jscutV rfl rfl rfl (Nat.le_of_ble_eq_true rfl) rfl h1) rfl h0 rfl rfl)))))
theorem at40_51 : jm_at 40 51 = some (.iinc 2 1) := by decide +kernel
theorem at40_54 : jm_at 40 54 = some (.iload_n 2) := by decide +kernel
theorem at40_55 : jm_at 40 55 = some (.sipush 400) := by decide +kernel
theorem at40_58 : jm_at 40 58 = some (.if_icmp .gt 12) := by decide +kernel
theorem u40_51 {S : Option (Nat × (Nat → Int32))} {D : Nat} {H : jm_H} {Q : Option Value → jm_H → Prop} {r0 : Nat} {x1 x2 : Int32} : jm_w S D 40 51 [.ref r0, .int x1, .int x2] [] H Q = if (400 : Int32) < (x2 + 1) then jm_w S D 40 70 [.ref r0, .int x1, .int (x2 + 1)] [] H Q else jm_w S D 40 61 [.ref r0, .int x1, .int (x2 + 1)] [] H Q := (jsinc at40_51 rfl rfl rfl).trans ((js1 at40_54 rfl rfl rfl).trans ((jscs at40_55 rfl rfl).trans (jsif (P := (400 : Int32) < (x2 + 1)) at40_58 rfl rfl)))
theorem at40_61 : jm_at 40 61 = some (.aload_n 0) := by decide +kernel
theorem at40_62 : jm_at 40 62 = some (.getfield 47) := by decide +kernel
theorem rv40g_47 : jm_rv 40 (.getfield 47) = (0, 1, 5, 0) := by decide +kernel
theorem at40_65 : jm_at 40 65 = some (.bipush 44) := by decide +kernel
theorem at40_67 : jm_at 40 67 = some (.if_icmp .eq (-48)) := by decide +kernel
theorem u40_61 {S : Option (Nat × (Nat → Int32))} {D : Nat} {H : jm_H} {Q : Option Value → jm_H → Prop} {r0 : Nat} {x1 x2 : Int32} (h0 : jm_tg H r0 = 2) : jm_w S D 40 61 [.ref r0, .int x1, .int x2] [] H Q = if (jm_I H r0 5) = (44 : Int32) then jm_w S D 40 19 [.ref r0, .int x1, .int x2] [] H Q else jm_w S D 40 70 [.ref r0, .int x1, .int x2] [] H Q := (js1 at40_61 rfl rfl rfl).trans ((jsgI (H := H) at40_62 rv40g_47 (Or.inl rfl) h0 rfl).trans ((jscb at40_65 rfl rfl).trans (jsif (P := (jm_I H r0 5) = (44 : Int32)) at40_67 rfl rfl)))
theorem at40_70 : jm_at 40 70 = some (.aload_n 0) := by decide +kernel
theorem at40_71 : jm_at 40 71 = some (.bipush 41) := by decide +kernel
theorem at40_73 : jm_at 40 73 = some (.invokevirtual 32) := by decide +kernel
theorem u40_70 {S : Option (Nat × (Nat → Int32))} {D : Nat} {H : jm_H} {Q : Option Value → jm_H → Prop} {r0 : Nat} {x1 x2 : Int32} (h0 : jm_rk 28 [.ref r0, .int (41 : Int32)] < D) (h1 : jm_tg H r0 = 2) : jm_w S D 40 70 [.ref r0, .int x1, .int x2] [] H Q = jm_c S 28 [.ref r0, .int (41 : Int32)] H (fun v G => jm_w S D 40 76 [.ref r0, .int x1, .int x2] (v.toList ++ []) G Q) := (js1 at40_70 rfl rfl rfl).trans ((jscb at40_71 rfl rfl).trans (jscall (H := H) (as := [.ref r0, .int (41 : Int32)]) (q := []) at40_73 rfl rv40i_32 (jscutV rfl rfl rfl (Nat.le_of_ble_eq_true rfl) rfl h1) rfl h0 rfl rfl))
theorem at40_76 : jm_at 40 76 = some (.pop) := by decide +kernel
theorem at40_77 : jm_at 40 77 = some (.aload_n 0) := by decide +kernel
theorem at40_78 : jm_at 40 78 = some (.getfield 25) := by decide +kernel
theorem rv40g_25 : jm_rv 40 (.getfield 25) = (0, 1, 2, 0) := by decide +kernel
theorem at40_81 : jm_at 40 81 = some (.bipush 8) := by decide +kernel
theorem at40_83 : jm_at 40 83 = some (.iload_n 2) := by decide +kernel
theorem at40_84 : jm_at 40 84 = some (.invokevirtual 149) := by decide +kernel
theorem rv40i_149 : jm_rv 40 (.invokevirtual 149) = (2, 37, 0, 0) := by decide +kernel
theorem u40_76 {S : Option (Nat × (Nat → Int32))} {D : Nat} {H : jm_H} {Q : Option Value → jm_H → Prop} {r0 : Nat} {x1 x2 p0 : Int32} (h0 : jm_tg H r0 = 2) (h1 : ¬ jm_R H r0 2 = 0) (h2 : jm_rk 37 [.ref (jm_R H r0 2), .int (8 : Int32), .int x2] < D) (h3 : jm_tg H (jm_R H r0 2) = 10) : jm_w S D 40 76 [.ref r0, .int x1, .int x2] [.int p0] H Q = jm_c S 37 [.ref (jm_R H r0 2), .int (8 : Int32), .int x2] H (fun v G => jm_w S D 40 87 [.ref r0, .int x1, .int x2] (v.toList ++ []) G Q) := (js0 at40_76 rfl rfl rfl).trans ((js1 at40_77 rfl rfl rfl).trans ((jsgR (H := H) at40_78 rv40g_25 rfl h0 h1 rfl).trans ((jscb at40_81 rfl rfl).trans ((js1 at40_83 rfl rfl rfl).trans (jscall (H := H) (as := [.ref (jm_R H r0 2), .int (8 : Int32), .int x2]) (q := []) at40_84 rfl rv40i_149 (jscutV rfl rfl rfl (Nat.le_of_ble_eq_true rfl) rfl h3) rfl h2 rfl rfl)))))
theorem at40_87 : jm_at 40 87 = some (.return_) := by decide +kernel
theorem u40_87 {S : Option (Nat × (Nat → Int32))} {D : Nat} {H : jm_H} {Q : Option Value → jm_H → Prop} {r0 : Nat} {x1 x2 : Int32} : jm_w S D 40 87 [.ref r0, .int x1, .int x2] [] H Q = Q none H := jsret_v at40_87 rfl
theorem en40 {S : Option (Nat × (Nat → Int32))} {H : jm_H} {Q : Option Value → jm_H → Prop} {r0 : Nat} {x1 : Int32} : jm_c S 40 [.ref r0, .int x1] H Q = jm_w S (jm_rk 40 [.ref r0, .int x1]) 40 0 [.ref r0, .int x1, .null] [] H Q := rfl
