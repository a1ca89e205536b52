theorem at13_0 : jm_at 13 0 = some (.aload_n 0) := by decide +kernel
theorem at13_1 : jm_at 13 1 = some (.getfield 20) := by decide +kernel
theorem rv13g_20 : jm_rv 13 (.getfield 20) = (0, 11, 0, 0) := by decide +kernel
theorem at13_4 : jm_at 13 4 = some (.getfield 95) := by decide +kernel
theorem rv13g_95 : jm_rv 13 (.getfield 95) = (0, 8, 1, 0) := by decide +kernel
theorem at13_7 : jm_at 13 7 = some (.bipush 20) := by decide +kernel
theorem at13_9 : jm_at 13 9 = some (.iadd) := by decide +kernel
theorem at13_10 : jm_at 13 10 = some (.sipush 2000) := by decide +kernel
theorem at13_13 : jm_at 13 13 = some (.if_icmp .le 5) := by decide +kernel
theorem u13_0 {S : Option (Nat × (Nat → Int32))} {H : jm_H} {Q : Option Value → jm_H → Prop} {r0 : Nat} {x1 x2 x3 x4 x5 : Int32} (h0 : jm_tg H r0 = 12) (h1 : ¬ jm_R H r0 0 = 0) (h2 : jm_tg H (jm_R H r0 0) = 9) : jm_w S 2 13 0 [.ref r0, .int x1, .int x2, .int x3, .int x4, .int x5] [] H Q = if ((jm_I H (jm_R H r0 0) 1) + (20 : Int32)) ≤ (2000 : Int32) then jm_w S 2 13 18 [.ref r0, .int x1, .int x2, .int x3, .int x4, .int x5] [] H Q else jm_w S 2 13 16 [.ref r0, .int x1, .int x2, .int x3, .int x4, .int x5] [] H Q := (js1 at13_0 rfl rfl rfl).trans ((jsgR (H := H) at13_1 rv13g_20 rfl h0 h1 rfl).trans ((jsgI (H := H) at13_4 rv13g_95 (Or.inl rfl) h2 rfl).trans ((jscb at13_7 rfl rfl).trans ((js0 at13_9 rfl rfl rfl).trans ((jscs at13_10 rfl rfl).trans (jsif (P := ((jm_I H (jm_R H r0 0) 1) + (20 : Int32)) ≤ (2000 : Int32)) at13_13 rfl rfl))))))
theorem at13_16 : jm_at 13 16 = some (.iconst (-1)) := by decide +kernel
theorem at13_17 : jm_at 13 17 = some (.ireturn) := by decide +kernel
theorem u13_16 {S : Option (Nat × (Nat → Int32))} {H : jm_H} {Q : Option Value → jm_H → Prop} {r0 : Nat} {x1 x2 x3 x4 x5 : Int32} : jm_w S 2 13 16 [.ref r0, .int x1, .int x2, .int x3, .int x4, .int x5] [] H Q = Q (some (.int (-1 : Int32))) H := (jsci at13_16 rfl rfl).trans (jsret_i at13_17 rfl)
theorem at13_18 : jm_at 13 18 = some (.aload_n 0) := by decide +kernel
theorem at13_19 : jm_at 13 19 = some (.getfield 20) := by decide +kernel
theorem at13_22 : jm_at 13 22 = some (.iload_n 1) := by decide +kernel
theorem at13_23 : jm_at 13 23 = some (.invokevirtual 100) := by decide +kernel
theorem rv13i_100 : jm_rv 13 (.invokevirtual 100) = (2, 14, 0, 0) := by decide +kernel
theorem u13_18 {S : Option (Nat × (Nat → Int32))} {H : jm_H} {Q : Option Value → jm_H → Prop} {r0 : Nat} {x1 x2 x3 x4 x5 : Int32} (h0 : jm_tg H r0 = 12) (h1 : ¬ jm_R H r0 0 = 0) (h2 : jm_tg H (jm_R H r0 0) = 9) : jm_w S 2 13 18 [.ref r0, .int x1, .int x2, .int x3, .int x4, .int x5] [] H Q = jm_c S 14 [.ref (jm_R H r0 0), .int x1] H (fun v G => jm_w S 2 13 26 [.ref r0, .int x1, .int x2, .int x3, .int x4, .int x5] (v.toList ++ []) G Q) := (js1 at13_18 rfl rfl rfl).trans ((jsgR (H := H) at13_19 rv13g_20 rfl h0 h1 rfl).trans ((js1 at13_22 rfl rfl rfl).trans (jscall (H := H) (as := [.ref (jm_R H r0 0), .int x1]) (q := []) at13_23 rfl rv13i_100 (jscutV rfl rfl rfl (Nat.le_of_ble_eq_true rfl) rfl h2) rfl (Nat.le_of_ble_eq_true rfl) rfl rfl)))
theorem at13_26 : jm_at 13 26 = some (.aload_n 0) := by decide +kernel
theorem at13_27 : jm_at 13 27 = some (.getfield 20) := by decide +kernel
theorem at13_30 : jm_at 13 30 = some (.iload_n 2) := by decide +kernel
theorem at13_31 : jm_at 13 31 = some (.invokevirtual 100) := by decide +kernel
theorem u13_26 {S : Option (Nat × (Nat → Int32))} {H : jm_H} {Q : Option Value → jm_H → Prop} {r0 : Nat} {x1 x2 x3 x4 x5 : Int32} (h0 : jm_tg H r0 = 12) (h1 : ¬ jm_R H r0 0 = 0) (h2 : jm_tg H (jm_R H r0 0) = 9) : jm_w S 2 13 26 [.ref r0, .int x1, .int x2, .int x3, .int x4, .int x5] [] H Q = jm_c S 14 [.ref (jm_R H r0 0), .int x2] H (fun v G => jm_w S 2 13 34 [.ref r0, .int x1, .int x2, .int x3, .int x4, .int x5] (v.toList ++ []) G Q) := (js1 at13_26 rfl rfl rfl).trans ((jsgR (H := H) at13_27 rv13g_20 rfl h0 h1 rfl).trans ((js1 at13_30 rfl rfl rfl).trans (jscall (H := H) (as := [.ref (jm_R H r0 0), .int x2]) (q := []) at13_31 rfl rv13i_100 (jscutV rfl rfl rfl (Nat.le_of_ble_eq_true rfl) rfl h2) rfl (Nat.le_of_ble_eq_true rfl) rfl rfl)))
theorem at13_34 : jm_at 13 34 = some (.aload_n 0) := by decide +kernel
theorem at13_35 : jm_at 13 35 = some (.getfield 20) := by decide +kernel
theorem at13_38 : jm_at 13 38 = some (.iload_n 3) := by decide +kernel
theorem at13_39 : jm_at 13 39 = some (.invokevirtual 100) := by decide +kernel
theorem u13_34 {S : Option (Nat × (Nat → Int32))} {H : jm_H} {Q : Option Value → jm_H → Prop} {r0 : Nat} {x1 x2 x3 x4 x5 : Int32} (h0 : jm_tg H r0 = 12) (h1 : ¬ jm_R H r0 0 = 0) (h2 : jm_tg H (jm_R H r0 0) = 9) : jm_w S 2 13 34 [.ref r0, .int x1, .int x2, .int x3, .int x4, .int x5] [] H Q = jm_c S 14 [.ref (jm_R H r0 0), .int x3] H (fun v G => jm_w S 2 13 42 [.ref r0, .int x1, .int x2, .int x3, .int x4, .int x5] (v.toList ++ []) G Q) := (js1 at13_34 rfl rfl rfl).trans ((jsgR (H := H) at13_35 rv13g_20 rfl h0 h1 rfl).trans ((js1 at13_38 rfl rfl rfl).trans (jscall (H := H) (as := [.ref (jm_R H r0 0), .int x3]) (q := []) at13_39 rfl rv13i_100 (jscutV rfl rfl rfl (Nat.le_of_ble_eq_true rfl) rfl h2) rfl (Nat.le_of_ble_eq_true rfl) rfl rfl)))
theorem at13_42 : jm_at 13 42 = some (.aload_n 0) := by decide +kernel
theorem at13_43 : jm_at 13 43 = some (.getfield 20) := by decide +kernel
theorem at13_46 : jm_at 13 46 = some (.iload 4) := by decide +kernel
theorem at13_48 : jm_at 13 48 = some (.invokevirtual 100) := by decide +kernel
theorem u13_42 {S : Option (Nat × (Nat → Int32))} {H : jm_H} {Q : Option Value → jm_H → Prop} {r0 : Nat} {x1 x2 x3 x4 x5 : Int32} (h0 : jm_tg H r0 = 12) (h1 : ¬ jm_R H r0 0 = 0) (h2 : jm_tg H (jm_R H r0 0) = 9) : jm_w S 2 13 42 [.ref r0, .int x1, .int x2, .int x3, .int x4, .int x5] [] H Q = jm_c S 14 [.ref (jm_R H r0 0), .int x4] H (fun v G => jm_w S 2 13 51 [.ref r0, .int x1, .int x2, .int x3, .int x4, .int x5] (v.toList ++ []) G Q) := (js1 at13_42 rfl rfl rfl).trans ((jsgR (H := H) at13_43 rv13g_20 rfl h0 h1 rfl).trans ((js1 at13_46 rfl rfl rfl).trans (jscall (H := H) (as := [.ref (jm_R H r0 0), .int x4]) (q := []) at13_48 rfl rv13i_100 (jscutV rfl rfl rfl (Nat.le_of_ble_eq_true rfl) rfl h2) rfl (Nat.le_of_ble_eq_true rfl) rfl rfl)))
theorem at13_51 : jm_at 13 51 = some (.aload_n 0) := by decide +kernel
theorem at13_52 : jm_at 13 52 = some (.getfield 20) := by decide +kernel
theorem at13_55 : jm_at 13 55 = some (.iload 5) := by decide +kernel
theorem at13_57 : jm_at 13 57 = some (.invokevirtual 100) := by decide +kernel
theorem u13_51 {S : Option (Nat × (Nat → Int32))} {H : jm_H} {Q : Option Value → jm_H → Prop} {r0 : Nat} {x1 x2 x3 x4 x5 : Int32} (h0 : jm_tg H r0 = 12) (h1 : ¬ jm_R H r0 0 = 0) (h2 : jm_tg H (jm_R H r0 0) = 9) : jm_w S 2 13 51 [.ref r0, .int x1, .int x2, .int x3, .int x4, .int x5] [] H Q = jm_c S 14 [.ref (jm_R H r0 0), .int x5] H (fun v G => jm_w S 2 13 60 [.ref r0, .int x1, .int x2, .int x3, .int x4, .int x5] (v.toList ++ []) G Q) := (js1 at13_51 rfl rfl rfl).trans ((jsgR (H := H) at13_52 rv13g_20 rfl h0 h1 rfl).trans ((js1 at13_55 rfl rfl rfl).trans (jscall (H := H) (as := [.ref (jm_R H r0 0), .int x5]) (q := []) at13_57 rfl rv13i_100 (jscutV rfl rfl rfl (Nat.le_of_ble_eq_true rfl) rfl h2) rfl (Nat.le_of_ble_eq_true rfl) rfl rfl)))
theorem at13_60 : jm_at 13 60 = some (.aload_n 0) := by decide +kernel
theorem at13_61 : jm_at 13 61 = some (.getfield 20) := by decide +kernel
theorem at13_64 : jm_at 13 64 = some (.getfield 95) := by decide +kernel
theorem at13_67 : jm_at 13 67 = some (.ireturn) := by decide +kernel
theorem u13_60 {S : Option (Nat × (Nat → Int32))} {H : jm_H} {Q : Option Value → jm_H → Prop} {r0 : Nat} {x1 x2 x3 x4 x5 : Int32} (h0 : jm_tg H r0 = 12) (h1 : ¬ jm_R H r0 0 = 0) (h2 : jm_tg H (jm_R H r0 0) = 9) : jm_w S 2 13 60 [.ref r0, .int x1, .int x2, .int x3, .int x4, .int x5] [] H Q = Q (some (.int (jm_I H (jm_R H r0 0) 1))) H := (js1 at13_60 rfl rfl rfl).trans ((jsgR (H := H) at13_61 rv13g_20 rfl h0 h1 rfl).trans ((jsgI (H := H) at13_64 rv13g_95 (Or.inl rfl) h2 rfl).trans (jsret_i at13_67 rfl)))
theorem en13 {S : Option (Nat × (Nat → Int32))} {H : jm_H} {Q : Option Value → jm_H → Prop} {r0 : Nat} {x1 x2 x3 x4 x5 : Int32} : jm_c S 13 [.ref r0, .int x1, .int x2, .int x3, .int x4, .int x5] H Q = jm_w S 2 13 0 [.ref r0, .int x1, .int x2, .int x3, .int x4, .int x5] [] H Q := rfl
theorem at15_0 : jm_at 15 0 = some (.iload_n 1) := by decide +kernel
theorem at15_1 : jm_at 15 1 = some (.ifCond .lt 14) := by decide +kernel
theorem u15_0 {S : Option (Nat × (Nat → Int32))} {H : jm_H} {Q : Option Value → jm_H → Prop} {r0 : Nat} {x1 : Int32} : jm_w S 1 15 0 [.ref r0, .int x1] [] H Q = if x1 < 0 then jm_w S 1 15 15 [.ref r0, .int x1] [] H Q else jm_w S 1 15 4 [.ref r0, .int x1] [] H Q := (js1 at15_0 rfl rfl rfl).trans (jsif (P := x1 < 0) at15_1 rfl rfl)
theorem at15_4 : jm_at 15 4 = some (.iload_n 1) := by decide +kernel
theorem at15_5 : jm_at 15 5 = some (.aload_n 0) := by decide +kernel
theorem at15_6 : jm_at 15 6 = some (.getfield 20) := by decide +kernel
theorem rv15g_20 : jm_rv 15 (.getfield 20) = (0, 11, 0, 0) := by decide +kernel
theorem at15_9 : jm_at 15 9 = some (.getfield 95) := by decide +kernel
theorem rv15g_95 : jm_rv 15 (.getfield 95) = (0, 8, 1, 0) := by decide +kernel
theorem at15_12 : jm_at 15 12 = some (.if_icmp .le 5) := by decide +kernel
theorem u15_4 {S : Option (Nat × (Nat → Int32))} {H : jm_H} {Q : Option Value → jm_H → Prop} {r0 : Nat} {x1 : Int32} (h0 : jm_tg H r0 = 12) (h1 : ¬ jm_R H r0 0 = 0) (h2 : jm_tg H (jm_R H r0 0) = 9) : jm_w S 1 15 4 [.ref r0, .int x1] [] H Q = if x1 ≤ (jm_I H (jm_R H r0 0) 1) then jm_w S 1 15 17 [.ref r0, .int x1] [] H Q else jm_w S 1 15 15 [.ref r0, .int x1] [] H Q := (js1 at15_4 rfl rfl rfl).trans ((js1 at15_5 rfl rfl rfl).trans ((jsgR (H := H) at15_6 rv15g_20 rfl h0 h1 rfl).trans ((jsgI (H := H) at15_9 rv15g_95 (Or.inl rfl) h2 rfl).trans (jsif (P := x1 ≤ (jm_I H (jm_R H r0 0) 1)) at15_12 rfl rfl))))
theorem at15_15 : jm_at 15 15 = some (.iconst (-1)) := by decide +kernel
theorem at15_16 : jm_at 15 16 = some (.ireturn) := by decide +kernel
theorem u15_15 {S : Option (Nat × (Nat → Int32))} {H : jm_H} {Q : Option Value → jm_H → Prop} {r0 : Nat} {x1 : Int32} : jm_w S 1 15 15 [.ref r0, .int x1] [] H Q = Q (some (.int (-1 : Int32))) H := (jsci at15_15 rfl rfl).trans (jsret_i at15_16 rfl)
theorem at15_17 : jm_at 15 17 = some (.aload_n 0) := by decide +kernel
theorem at15_18 : jm_at 15 18 = some (.getfield 20) := by decide +kernel
theorem at15_21 : jm_at 15 21 = some (.dup) := by decide +kernel
theorem at15_22 : jm_at 15 22 = some (.getfield 95) := by decide +kernel
theorem at15_25 : jm_at 15 25 = some (.iload_n 1) := by decide +kernel
theorem at15_26 : jm_at 15 26 = some (.isub) := by decide +kernel
theorem at15_27 : jm_at 15 27 = some (.putfield 95) := by decide +kernel
theorem rv15p_95 : jm_rv 15 (.putfield 95) = (0, 8, 1, 0) := by decide +kernel
theorem at15_30 : jm_at 15 30 = some (.aload_n 0) := by decide +kernel
theorem at15_31 : jm_at 15 31 = some (.getfield 20) := by decide +kernel
theorem at15_34 : jm_at 15 34 = some (.getfield 95) := by decide +kernel
theorem at15_37 : jm_at 15 37 = some (.ireturn) := by decide +kernel
theorem u15_17 {S : Option (Nat × (Nat → Int32))} {H : jm_H} {Q : Option Value → jm_H → Prop} {r0 : Nat} {x1 : Int32} (h0 : jm_tg H r0 = 12) (h1 : ¬ jm_R H r0 0 = 0) (h2 : jm_tg H (jm_R H r0 0) = 9) : jm_w S 1 15 17 [.ref r0, .int x1] [] H Q = Q (some (.int (jm_I (jm_pI H (jm_R H r0 0) 1 ((jm_I H (jm_R H r0 0) 1) - x1)) (jm_R H r0 0) 1))) (jm_pI H (jm_R H r0 0) 1 ((jm_I H (jm_R H r0 0) 1) - x1)) := (js1 at15_17 rfl rfl rfl).trans ((jsgR (H := H) at15_18 rv15g_20 rfl h0 h1 rfl).trans ((js0 at15_21 rfl rfl rfl).trans ((jsgI (H := H) at15_22 rv15g_95 (Or.inl rfl) h2 rfl).trans ((js1 at15_25 rfl rfl rfl).trans ((js0 at15_26 rfl rfl rfl).trans ((jspI (H := H) at15_27 rv15p_95 rfl h2 rfl).trans ((js1 at15_30 rfl rfl rfl).trans ((jsgR (H := (jm_pI H (jm_R H r0 0) 1 ((jm_I H (jm_R H r0 0) 1) - x1))) at15_31 rv15g_20 rfl h0 h1 rfl).trans ((jsgI (H := (jm_pI H (jm_R H r0 0) 1 ((jm_I H (jm_R H r0 0) 1) - x1))) at15_34 rv15g_95 (Or.inl rfl) h2 rfl).trans (jsret_i at15_37 rfl))))))))))
theorem en15 {S : Option (Nat × (Nat → Int32))} {H : jm_H} {Q : Option Value → jm_H → Prop} {r0 : Nat} {x1 : Int32} : jm_c S 15 [.ref r0, .int x1] H Q = jm_w S 1 15 0 [.ref r0, .int x1] [] H Q := rfl
theorem at16_0 : jm_at 16 0 = some (.aload_n 0) := by decide +kernel
theorem at16_1 : jm_at 16 1 = some (.getfield 10) := by decide +kernel
theorem rv16g_10 : jm_rv 16 (.getfield 10) = (0, 11, 1, 0) := by decide +kernel
theorem at16_4 : jm_at 16 4 = some (.invokevirtual 104) := by decide +kernel
theorem rv16i_104 : jm_rv 16 (.invokevirtual 104) = (2, 17, 0, 0) := by decide +kernel
theorem u16_0 {S : Option (Nat × (Nat → Int32))} {H : jm_H} {Q : Option Value → jm_H → Prop} {r0 : Nat} (h0 : jm_tg H r0 = 12) (h1 : ¬ jm_R H r0 1 = 0) (h2 : jm_tg H (jm_R H r0 1) = 2) : jm_w S 48 16 0 [.ref r0, .null] [] H Q = jm_c S 17 [.ref (jm_R H r0 1)] H (fun v G => jm_w S 48 16 7 [.ref r0, .null] (v.toList ++ []) G Q) := (js1 at16_0 rfl rfl rfl).trans ((jsgR (H := H) at16_1 rv16g_10 rfl h0 h1 rfl).trans (jscall (H := H) (as := [.ref (jm_R H r0 1)]) (q := []) at16_4 rfl rv16i_104 (jscutV rfl rfl rfl (Nat.le_of_ble_eq_true rfl) rfl h2) rfl (Nat.le_of_ble_eq_true rfl) rfl rfl))
theorem at16_7 : jm_at 16 7 = some (.istore_n 1) := by decide +kernel
theorem at16_8 : jm_at 16 8 = some (.aload_n 0) := by decide +kernel
theorem at16_9 : jm_at 16 9 = some (.iload_n 1) := by decide +kernel
theorem at16_10 : jm_at 16 10 = some (.ifCond .ne 7) := by decide +kernel
theorem u16_7 {S : Option (Nat × (Nat → Int32))} {H : jm_H} {Q : Option Value → jm_H → Prop} {r0 : Nat} {p0 : Int32} : jm_w S 48 16 7 [.ref r0, .null] [.int p0] H Q = if ¬ p0 = 0 then jm_w S 48 16 17 [.ref r0, .int p0] [.ref r0] H Q else jm_w S 48 16 13 [.ref r0, .int p0] [.ref r0] H Q := (js1 at16_7 rfl rfl rfl).trans ((js1 at16_8 rfl rfl rfl).trans ((js1 at16_9 rfl rfl rfl).trans (jsif (P := ¬ p0 = 0) at16_10 rfl rfl)))
theorem at16_13 : jm_at 16 13 = some (.iconst (-1)) := by decide +kernel
theorem at16_14 : jm_at 16 14 = some (.goto 10) := by decide +kernel
theorem u16_13 {S : Option (Nat × (Nat → Int32))} {H : jm_H} {Q : Option Value → jm_H → Prop} {r0 o0 : Nat} {x1 : Int32} : jm_w S 48 16 13 [.ref r0, .int x1] [.ref o0] H Q = jm_w S 48 16 24 [.ref r0, .int x1] [.int (-1 : Int32), .ref o0] H Q := (jsci at16_13 rfl rfl).trans (js2 at16_14 rfl rfl)
theorem at16_17 : jm_at 16 17 = some (.aload_n 0) := by decide +kernel
theorem at16_18 : jm_at 16 18 = some (.getfield 10) := by decide +kernel
theorem at16_21 : jm_at 16 21 = some (.getfield 108) := by decide +kernel
theorem rv16g_108 : jm_rv 16 (.getfield 108) = (0, 1, 3, 0) := by decide +kernel
theorem u16_17 {S : Option (Nat × (Nat → Int32))} {H : jm_H} {Q : Option Value → jm_H → Prop} {r0 o0 : Nat} {x1 : Int32} (h0 : jm_tg H r0 = 12) (h1 : ¬ jm_R H r0 1 = 0) (h2 : jm_tg H (jm_R H r0 1) = 2) : jm_w S 48 16 17 [.ref r0, .int x1] [.ref o0] H Q = jm_w S 48 16 24 [.ref r0, .int x1] [.int (jm_I H (jm_R H r0 1) 3), .ref o0] H Q := (js1 at16_17 rfl rfl rfl).trans ((jsgR (H := H) at16_18 rv16g_10 rfl h0 h1 rfl).trans (jsgI (H := H) at16_21 rv16g_108 (Or.inl rfl) h2 rfl))
theorem at16_24 : jm_at 16 24 = some (.putfield 91) := by decide +kernel
theorem rv16p_91 : jm_rv 16 (.putfield 91) = (0, 11, 16, 0) := by decide +kernel
theorem at16_27 : jm_at 16 27 = some (.aload_n 0) := by decide +kernel
theorem at16_28 : jm_at 16 28 = some (.getfield 20) := by decide +kernel
theorem rv16g_20 : jm_rv 16 (.getfield 20) = (0, 11, 0, 0) := by decide +kernel
theorem at16_31 : jm_at 16 31 = some (.iconst 0) := by decide +kernel
theorem at16_32 : jm_at 16 32 = some (.putfield 95) := by decide +kernel
theorem rv16p_95 : jm_rv 16 (.putfield 95) = (0, 8, 1, 0) := by decide +kernel
theorem at16_35 : jm_at 16 35 = some (.iload_n 1) := by decide +kernel
theorem at16_36 : jm_at 16 36 = some (.ifCond .ne 36) := by decide +kernel
theorem u16_24 {S : Option (Nat × (Nat → Int32))} {H : jm_H} {Q : Option Value → jm_H → Prop} {r0 o0 : Nat} {x1 p1 : Int32} (h0 : jm_tg H o0 = 12) (h1 : jm_tg H r0 = 12) (h2 : ¬ jm_R H r0 0 = 0) (h3 : jm_tg H (jm_R H r0 0) = 9) : jm_w S 48 16 24 [.ref r0, .int x1] [.int p1, .ref o0] H Q = if ¬ x1 = 0 then jm_w S 48 16 72 [.ref r0, .int x1] [] (jm_pI (jm_pI H o0 16 p1) (jm_R H r0 0) 1 (0 : Int32)) Q else jm_w S 48 16 39 [.ref r0, .int x1] [] (jm_pI (jm_pI H o0 16 p1) (jm_R H r0 0) 1 (0 : Int32)) Q := (jspI (H := H) at16_24 rv16p_91 rfl h0 rfl).trans ((js1 at16_27 rfl rfl rfl).trans ((jsgR (H := (jm_pI H o0 16 p1)) at16_28 rv16g_20 rfl h1 h2 rfl).trans ((jsci at16_31 rfl rfl).trans ((jspI (H := (jm_pI H o0 16 p1)) at16_32 rv16p_95 rfl h3 rfl).trans ((js1 at16_35 rfl rfl rfl).trans (jsif (P := ¬ x1 = 0) at16_36 rfl rfl))))))
theorem at16_39 : jm_at 16 39 = some (.aload_n 0) := by decide +kernel
theorem at16_40 : jm_at 16 40 = some (.invokevirtual 111) := by decide +kernel
theorem rv16i_111 : jm_rv 16 (.invokevirtual 111) = (2, 41, 0, 0) := by decide +kernel
theorem u16_39 {S : Option (Nat × (Nat → Int32))} {H : jm_H} {Q : Option Value → jm_H → Prop} {r0 : Nat} {x1 : Int32} (h0 : jm_tg H r0 = 12) : jm_w S 48 16 39 [.ref r0, .int x1] [] H Q = jm_c S 41 [.ref r0] H (fun v G => jm_w S 48 16 43 [.ref r0, .int x1] (v.toList ++ []) G Q) := (js1 at16_39 rfl rfl rfl).trans (jscall (H := H) (as := [.ref r0]) (q := []) at16_40 rfl rv16i_111 (jscutV rfl rfl rfl (Nat.le_of_ble_eq_true rfl) rfl h0) rfl (Nat.le_of_ble_eq_true rfl) rfl rfl)
theorem at16_43 : jm_at 16 43 = some (.aload_n 0) := by decide +kernel
theorem at16_44 : jm_at 16 44 = some (.getfield 24) := by decide +kernel
theorem rv16g_24 : jm_rv 16 (.getfield 24) = (0, 11, 2, 0) := by decide +kernel
theorem at16_47 : jm_at 16 47 = some (.aload_n 0) := by decide +kernel
theorem at16_48 : jm_at 16 48 = some (.getfield 87) := by decide +kernel
theorem rv16g_87 : jm_rv 16 (.getfield 87) = (0, 11, 13, 0) := by decide +kernel
theorem at16_51 : jm_at 16 51 = some (.aload_n 0) := by decide +kernel
theorem at16_52 : jm_at 16 52 = some (.getfield 53) := by decide +kernel
theorem rv16g_53 : jm_rv 16 (.getfield 53) = (0, 11, 7, 0) := by decide +kernel
theorem at16_55 : jm_at 16 55 = some (.getfield 114) := by decide +kernel
theorem rv16g_114 : jm_rv 16 (.getfield 114) = (0, 6, 1, 0) := by decide +kernel
theorem at16_58 : jm_at 16 58 = some (.aload_n 0) := by decide +kernel
theorem at16_59 : jm_at 16 59 = some (.getfield 53) := by decide +kernel
theorem at16_62 : jm_at 16 62 = some (.getfield 117) := by decide +kernel
theorem rv16g_117 : jm_rv 16 (.getfield 117) = (0, 6, 2, 0) := by decide +kernel
theorem at16_65 : jm_at 16 65 = some (.aload_n 0) := by decide +kernel
theorem at16_66 : jm_at 16 66 = some (.getfield 68) := by decide +kernel
theorem rv16g_68 : jm_rv 16 (.getfield 68) = (0, 11, 10, 0) := by decide +kernel
theorem at16_69 : jm_at 16 69 = some (.invokevirtual 120) := by decide +kernel
theorem rv16i_120 : jm_rv 16 (.invokevirtual 120) = (2, 43, 0, 0) := by decide +kernel
theorem u16_43 {S : Option (Nat × (Nat → Int32))} {H : jm_H} {Q : Option Value → jm_H → Prop} {r0 : Nat} {x1 : Int32} (h0 : jm_tg H r0 = 12) (h1 : ¬ jm_R H r0 2 = 0) (h2 : ¬ jm_R H r0 13 = 0) (h3 : ¬ jm_R H r0 7 = 0) (h4 : jm_tg H (jm_R H r0 7) = 7) (h5 : ¬ jm_R H r0 10 = 0) (h6 : jm_tg H (jm_R H r0 2) = 11) : jm_w S 48 16 43 [.ref r0, .int x1] [] H Q = jm_c S 43 [.ref (jm_R H r0 2), .ref (jm_R H r0 13), .int (jm_I H (jm_R H r0 7) 1), .int (jm_I H (jm_R H r0 7) 2), .ref (jm_R H r0 10)] H (fun v G => jm_w S 48 16 72 [.ref r0, .int x1] (v.toList ++ []) G Q) := (js1 at16_43 rfl rfl rfl).trans ((jsgR (H := H) at16_44 rv16g_24 rfl h0 h1 rfl).trans ((js1 at16_47 rfl rfl rfl).trans ((jsgR (H := H) at16_48 rv16g_87 rfl h0 h2 rfl).trans ((js1 at16_51 rfl rfl rfl).trans ((jsgR (H := H) at16_52 rv16g_53 rfl h0 h3 rfl).trans ((jsgI (H := H) at16_55 rv16g_114 (Or.inl rfl) h4 rfl).trans ((js1 at16_58 rfl rfl rfl).trans ((jsgR (H := H) at16_59 rv16g_53 rfl h0 h3 rfl).trans ((jsgI (H := H) at16_62 rv16g_117 (Or.inl rfl) h4 rfl).trans ((js1 at16_65 rfl rfl rfl).trans ((jsgR (H := H) at16_66 rv16g_68 rfl h0 h5 rfl).trans (jscall (H := H) (as := [.ref (jm_R H r0 2), .ref (jm_R H r0 13), .int (jm_I H (jm_R H r0 7) 1), .int (jm_I H (jm_R H r0 7) 2), .ref (jm_R H r0 10)]) (q := []) at16_69 rfl rv16i_120 (jscutV rfl rfl rfl (Nat.le_of_ble_eq_true rfl) rfl h6) rfl (Nat.le_of_ble_eq_true rfl) rfl rfl))))))))))))
theorem at16_72 : jm_at 16 72 = some (.iload_n 1) := by decide +kernel
theorem at16_73 : jm_at 16 73 = some (.ireturn) := by decide +kernel
theorem u16_72 {S : Option (Nat × (Nat → Int32))} {H : jm_H} {Q : Option Value → jm_H → Prop} {r0 : Nat} {x1 : Int32} : jm_w S 48 16 72 [.ref r0, .int x1] [] H Q = Q (some (.int x1)) H := (js1 at16_72 rfl rfl rfl).trans (jsret_i at16_73 rfl)
theorem en16 {S : Option (Nat × (Nat → Int32))} {H : jm_H} {Q : Option Value → jm_H → Prop} {r0 : Nat} : jm_c S 16 [.ref r0] H Q = jm_w S 48 16 0 [.ref r0, .null] [] H Q := rfl
theorem at41_0 : jm_at 41 0 = some (.aload_n 0) := by decide +kernel
theorem at41_1 : jm_at 41 1 = some (.getfield 87) := by decide +kernel
theorem rv41g_87 : jm_rv 41 (.getfield 87) = (0, 11, 13, 0) := by decide +kernel
theorem at41_4 : jm_at 41 4 = some (.astore_n 1) := by decide +kernel
theorem at41_5 : jm_at 41 5 = some (.aload_n 0) := by decide +kernel
theorem at41_6 : jm_at 41 6 = some (.aload_n 0) := by decide +kernel
theorem at41_7 : jm_at 41 7 = some (.getfield 10) := by decide +kernel
theorem rv41g_10 : jm_rv 41 (.getfield 10) = (0, 11, 1, 0) := by decide +kernel
theorem at41_10 : jm_at 41 10 = some (.getfield 124) := by decide +kernel
theorem rv41g_124 : jm_rv 41 (.getfield 124) = (0, 1, 2, 0) := by decide +kernel
theorem at41_13 : jm_at 41 13 = some (.putfield 87) := by decide +kernel
theorem rv41p_87 : jm_rv 41 (.putfield 87) = (0, 11, 13, 0) := by decide +kernel
theorem at41_16 : jm_at 41 16 = some (.aload_n 0) := by decide +kernel
theorem at41_17 : jm_at 41 17 = some (.getfield 10) := by decide +kernel
theorem at41_20 : jm_at 41 20 = some (.aload_n 1) := by decide +kernel
theorem at41_21 : jm_at 41 21 = some (.putfield 124) := by decide +kernel
theorem rv41p_124 : jm_rv 41 (.putfield 124) = (0, 1, 2, 0) := by decide +kernel
theorem at41_24 : jm_at 41 24 = some (.aload_n 0) := by decide +kernel
theorem at41_25 : jm_at 41 25 = some (.getfield 53) := by decide +kernel
theorem rv41g_53 : jm_rv 41 (.getfield 53) = (0, 11, 7, 0) := by decide +kernel
theorem at41_28 : jm_at 41 28 = some (.aload_n 0) := by decide +kernel
theorem at41_29 : jm_at 41 29 = some (.getfield 87) := by decide +kernel
theorem at41_32 : jm_at 41 32 = some (.getfield 125) := by decide +kernel
theorem rv41g_125 : jm_rv 41 (.getfield 125) = (0, 9, 4, 0) := by decide +kernel
theorem at41_35 : jm_at 41 35 = some (.putfield 114) := by decide +kernel
theorem rv41p_114 : jm_rv 41 (.putfield 114) = (0, 6, 1, 0) := by decide +kernel
theorem at41_38 : jm_at 41 38 = some (.aload_n 0) := by decide +kernel
theorem at41_39 : jm_at 41 39 = some (.getfield 53) := by decide +kernel
theorem at41_42 : jm_at 41 42 = some (.aload_n 0) := by decide +kernel
theorem at41_43 : jm_at 41 43 = some (.getfield 87) := by decide +kernel
theorem at41_46 : jm_at 41 46 = some (.getfield 126) := by decide +kernel
theorem rv41g_126 : jm_rv 41 (.getfield 126) = (0, 9, 5, 0) := by decide +kernel
theorem at41_49 : jm_at 41 49 = some (.putfield 117) := by decide +kernel
theorem rv41p_117 : jm_rv 41 (.putfield 117) = (0, 6, 2, 0) := by decide +kernel
theorem at41_52 : jm_at 41 52 = some (.aload_n 0) := by decide +kernel
theorem at41_53 : jm_at 41 53 = some (.getfield 53) := by decide +kernel
theorem at41_56 : jm_at 41 56 = some (.getfield 127) := by decide +kernel
theorem rv41g_127 : jm_rv 41 (.getfield 127) = (0, 6, 0, 0) := by decide +kernel
theorem at41_59 : jm_at 41 59 = some (.invokevirtual 131) := by decide +kernel
theorem rv41i_131 : jm_rv 41 (.invokevirtual 131) = (2, 42, 0, 0) := by decide +kernel
theorem u41_0 {S : Option (Nat × (Nat → Int32))} {H : jm_H} {Q : Option Value → jm_H → Prop} {r0 : Nat} (h0 : jm_tg H r0 = 12) (h1 : ¬ jm_R H r0 13 = 0) (h2 : ¬ jm_R H r0 1 = 0) (h3 : jm_tg H (jm_R H r0 1) = 2) (h4 : ¬ jm_R H (jm_R H r0 1) 2 = 0) (h5 : ¬ (jm_R H (jm_R H r0 1) 2) = 0) (h6 : ¬ jm_R (jm_pR H r0 13 (jm_R H (jm_R H r0 1) 2)) r0 1 = 0) (h7 : jm_tg H (jm_R (jm_pR H r0 13 (jm_R H (jm_R H r0 1) 2)) r0 1) = 2) (h8 : ¬ (jm_R H r0 13) = 0) (h9 : ¬ jm_R (jm_pR (jm_pR H r0 13 (jm_R H (jm_R H r0 1) 2)) (jm_R (jm_pR H r0 13 (jm_R H (jm_R H r0 1) 2)) r0 1) 2 (jm_R H r0 13)) r0 7 = 0) (h10 : ¬ jm_R (jm_pR (jm_pR H r0 13 (jm_R H (jm_R H r0 1) 2)) (jm_R (jm_pR H r0 13 (jm_R H (jm_R H r0 1) 2)) r0 1) 2 (jm_R H r0 13)) r0 13 = 0) (h11 : jm_tg H (jm_R (jm_pR (jm_pR H r0 13 (jm_R H (jm_R H r0 1) 2)) (jm_R (jm_pR H r0 13 (jm_R H (jm_R H r0 1) 2)) r0 1) 2 (jm_R H r0 13)) r0 13) = 10) (h12 : jm_tg H (jm_R (jm_pR (jm_pR H r0 13 (jm_R H (jm_R H r0 1) 2)) (jm_R (jm_pR H r0 13 (jm_R H (jm_R H r0 1) 2)) r0 1) 2 (jm_R H r0 13)) r0 7) = 7) (h13 : ¬ jm_R (jm_pI (jm_pR (jm_pR H r0 13 (jm_R H (jm_R H r0 1) 2)) (jm_R (jm_pR H r0 13 (jm_R H (jm_R H r0 1) 2)) r0 1) 2 (jm_R H r0 13)) (jm_R (jm_pR (jm_pR H r0 13 (jm_R H (jm_R H r0 1) 2)) (jm_R (jm_pR H r0 13 (jm_R H (jm_R H r0 1) 2)) r0 1) 2 (jm_R H r0 13)) r0 7) 1 (jm_I H (jm_R (jm_pR (jm_pR H r0 13 (jm_R H (jm_R H r0 1) 2)) (jm_R (jm_pR H r0 13 (jm_R H (jm_R H r0 1) 2)) r0 1) 2 (jm_R H r0 13)) r0 13) 4)) r0 7 = 0) (h14 : ¬ jm_R (jm_pI (jm_pR (jm_pR H r0 13 (jm_R H (jm_R H r0 1) 2)) (jm_R (jm_pR H r0 13 (jm_R H (jm_R H r0 1) 2)) r0 1) 2 (jm_R H r0 13)) (jm_R (jm_pR (jm_pR H r0 13 (jm_R H (jm_R H r0 1) 2)) (jm_R (jm_pR H r0 13 (jm_R H (jm_R H r0 1) 2)) r0 1) 2 (jm_R H r0 13)) r0 7) 1 (jm_I H (jm_R (jm_pR (jm_pR H r0 13 (jm_R H (jm_R H r0 1) 2)) (jm_R (jm_pR H r0 13 (jm_R H (jm_R H r0 1) 2)) r0 1) 2 (jm_R H r0 13)) r0 13) 4)) r0 13 = 0) (h15 : jm_tg H (jm_R (jm_pI (jm_pR (jm_pR H r0 13 (jm_R H (jm_R H r0 1) 2)) (jm_R (jm_pR H r0 13 (jm_R H (jm_R H r0 1) 2)) r0 1) 2 (jm_R H r0 13)) (jm_R (jm_pR (jm_pR H r0 13 (jm_R H (jm_R H r0 1) 2)) (jm_R (jm_pR H r0 13 (jm_R H (jm_R H r0 1) 2)) r0 1) 2 (jm_R H r0 13)) r0 7) 1 (jm_I H (jm_R (jm_pR (jm_pR H r0 13 (jm_R H (jm_R H r0 1) 2)) (jm_R (jm_pR H r0 13 (jm_R H (jm_R H r0 1) 2)) r0 1) 2 (jm_R H r0 13)) r0 13) 4)) r0 13) = 10) (h16 : jm_tg H (jm_R (jm_pI (jm_pR (jm_pR H r0 13 (jm_R H (jm_R H r0 1) 2)) (jm_R (jm_pR H r0 13 (jm_R H (jm_R H r0 1) 2)) r0 1) 2 (jm_R H r0 13)) (jm_R (jm_pR (jm_pR H r0 13 (jm_R H (jm_R H r0 1) 2)) (jm_R (jm_pR H r0 13 (jm_R H (jm_R H r0 1) 2)) r0 1) 2 (jm_R H r0 13)) r0 7) 1 (jm_I H (jm_R (jm_pR (jm_pR H r0 13 (jm_R H (jm_R H r0 1) 2)) (jm_R (jm_pR H r0 13 (jm_R H (jm_R H r0 1) 2)) r0 1) 2 (jm_R H r0 13)) r0 13) 4)) r0 7) = 7) (h17 : ¬ jm_R (jm_pI (jm_pI (jm_pR (jm_pR H r0 13 (jm_R H (jm_R H r0 1) 2)) (jm_R (jm_pR H r0 13 (jm_R H (jm_R H r0 1) 2)) r0 1) 2 (jm_R H r0 13)) (jm_R (jm_pR (jm_pR H r0 13 (jm_R H (jm_R H r0 1) 2)) (jm_R (jm_pR H r0 13 (jm_R H (jm_R H r0 1) 2)) r0 1) 2 (jm_R H r0 13)) r0 7) 1 (jm_I H (jm_R (jm_pR (jm_pR H r0 13 (jm_R H (jm_R H r0 1) 2)) (jm_R (jm_pR H r0 13 (jm_R H (jm_R H r0 1) 2)) r0 1) 2 (jm_R H r0 13)) r0 13) 4)) (jm_R (jm_pI (jm_pR (jm_pR H r0 13 (jm_R H (jm_R H r0 1) 2)) (jm_R (jm_pR H r0 13 (jm_R H (jm_R H r0 1) 2)) r0 1) 2 (jm_R H r0 13)) (jm_R (jm_pR (jm_pR H r0 13 (jm_R H (jm_R H r0 1) 2)) (jm_R (jm_pR H r0 13 (jm_R H (jm_R H r0 1) 2)) r0 1) 2 (jm_R H r0 13)) r0 7) 1 (jm_I H (jm_R (jm_pR (jm_pR H r0 13 (jm_R H (jm_R H r0 1) 2)) (jm_R (jm_pR H r0 13 (jm_R H (jm_R H r0 1) 2)) r0 1) 2 (jm_R H r0 13)) r0 13) 4)) r0 7) 2 (jm_I (jm_pI (jm_pR (jm_pR H r0 13 (jm_R H (jm_R H r0 1) 2)) (jm_R (jm_pR H r0 13 (jm_R H (jm_R H r0 1) 2)) r0 1) 2 (jm_R H r0 13)) (jm_R (jm_pR (jm_pR H r0 13 (jm_R H (jm_R H r0 1) 2)) (jm_R (jm_pR H r0 13 (jm_R H (jm_R H r0 1) 2)) r0 1) 2 (jm_R H r0 13)) r0 7) 1 (jm_I H (jm_R (jm_pR (jm_pR H r0 13 (jm_R H (jm_R H r0 1) 2)) (jm_R (jm_pR H r0 13 (jm_R H (jm_R H r0 1) 2)) r0 1) 2 (jm_R H r0 13)) r0 13) 4)) (jm_R (jm_pI (jm_pR (jm_pR H r0 13 (jm_R H (jm_R H r0 1) 2)) (jm_R (jm_pR H r0 13 (jm_R H (jm_R H r0 1) 2)) r0 1) 2 (jm_R H r0 13)) (jm_R (jm_pR (jm_pR H r0 13 (jm_R H (jm_R H r0 1) 2)) (jm_R (jm_pR H r0 13 (jm_R H (jm_R H r0 1) 2)) r0 1) 2 (jm_R H r0 13)) r0 7) 1 (jm_I H (jm_R (jm_pR (jm_pR H r0 13 (jm_R H (jm_R H r0 1) 2)) (jm_R (jm_pR H r0 13 (jm_R H (jm_R H r0 1) 2)) r0 1) 2 (jm_R H r0 13)) r0 13) 4)) r0 13) 5)) r0 7 = 0) (h18 : jm_tg H (jm_R (jm_pI (jm_pI (jm_pR (jm_pR H r0 13 (jm_R H (jm_R H r0 1) 2)) (jm_R (jm_pR H r0 13 (jm_R H (jm_R H r0 1) 2)) r0 1) 2 (jm_R H r0 13)) (jm_R (jm_pR (jm_pR H r0 13 (jm_R H (jm_R H r0 1) 2)) (jm_R (jm_pR H r0 13 (jm_R H (jm_R H r0 1) 2)) r0 1) 2 (jm_R H r0 13)) r0 7) 1 (jm_I H (jm_R (jm_pR (jm_pR H r0 13 (jm_R H (jm_R H r0 1) 2)) (jm_R (jm_pR H r0 13 (jm_R H (jm_R H r0 1) 2)) r0 1) 2 (jm_R H r0 13)) r0 13) 4)) (jm_R (jm_pI (jm_pR (jm_pR H r0 13 (jm_R H (jm_R H r0 1) 2)) (jm_R (jm_pR H r0 13 (jm_R H (jm_R H r0 1) 2)) r0 1) 2 (jm_R H r0 13)) (jm_R (jm_pR (jm_pR H r0 13 (jm_R H (jm_R H r0 1) 2)) (jm_R (jm_pR H r0 13 (jm_R H (jm_R H r0 1) 2)) r0 1) 2 (jm_R H r0 13)) r0 7) 1 (jm_I H (jm_R (jm_pR (jm_pR H r0 13 (jm_R H (jm_R H r0 1) 2)) (jm_R (jm_pR H r0 13 (jm_R H (jm_R H r0 1) 2)) r0 1) 2 (jm_R H r0 13)) r0 13) 4)) r0 7) 2 (jm_I (jm_pI (jm_pR (jm_pR H r0 13 (jm_R H (jm_R H r0 1) 2)) (jm_R (jm_pR H r0 13 (jm_R H (jm_R H r0 1) 2)) r0 1) 2 (jm_R H r0 13)) (jm_R (jm_pR (jm_pR H r0 13 (jm_R H (jm_R H r0 1) 2)) (jm_R (jm_pR H r0 13 (jm_R H (jm_R H r0 1) 2)) r0 1) 2 (jm_R H r0 13)) r0 7) 1 (jm_I H (jm_R (jm_pR (jm_pR H r0 13 (jm_R H (jm_R H r0 1) 2)) (jm_R (jm_pR H r0 13 (jm_R H (jm_R H r0 1) 2)) r0 1) 2 (jm_R H r0 13)) r0 13) 4)) (jm_R (jm_pI (jm_pR (jm_pR H r0 13 (jm_R H (jm_R H r0 1) 2)) (jm_R (jm_pR H r0 13 (jm_R H (jm_R H r0 1) 2)) r0 1) 2 (jm_R H r0 13)) (jm_R (jm_pR (jm_pR H r0 13 (jm_R H (jm_R H r0 1) 2)) (jm_R (jm_pR H r0 13 (jm_R H (jm_R H r0 1) 2)) r0 1) 2 (jm_R H r0 13)) r0 7) 1 (jm_I H (jm_R (jm_pR (jm_pR H r0 13 (jm_R H (jm_R H r0 1) 2)) (jm_R (jm_pR H r0 13 (jm_R H (jm_R H r0 1) 2)) r0 1) 2 (jm_R H r0 13)) r0 13) 4)) r0 13) 5)) r0 7) = 7) (h19 : ¬ jm_R (jm_pI (jm_pI (jm_pR (jm_pR H r0 13 (jm_R H (jm_R H r0 1) 2)) (jm_R (jm_pR H r0 13 (jm_R H (jm_R H r0 1) 2)) r0 1) 2 (jm_R H r0 13)) (jm_R (jm_pR (jm_pR H r0 13 (jm_R H (jm_R H r0 1) 2)) (jm_R (jm_pR H r0 13 (jm_R H (jm_R H r0 1) 2)) r0 1) 2 (jm_R H r0 13)) r0 7) 1 (jm_I H (jm_R (jm_pR (jm_pR H r0 13 (jm_R H (jm_R H r0 1) 2)) (jm_R (jm_pR H r0 13 (jm_R H (jm_R H r0 1) 2)) r0 1) 2 (jm_R H r0 13)) r0 13) 4)) (jm_R (jm_pI (jm_pR (jm_pR H r0 13 (jm_R H (jm_R H r0 1) 2)) (jm_R (jm_pR H r0 13 (jm_R H (jm_R H r0 1) 2)) r0 1) 2 (jm_R H r0 13)) (jm_R (jm_pR (jm_pR H r0 13 (jm_R H (jm_R H r0 1) 2)) (jm_R (jm_pR H r0 13 (jm_R H (jm_R H r0 1) 2)) r0 1) 2 (jm_R H r0 13)) r0 7) 1 (jm_I H (jm_R (jm_pR (jm_pR H r0 13 (jm_R H (jm_R H r0 1) 2)) (jm_R (jm_pR H r0 13 (jm_R H (jm_R H r0 1) 2)) r0 1) 2 (jm_R H r0 13)) r0 13) 4)) r0 7) 2 (jm_I (jm_pI (jm_pR (jm_pR H r0 13 (jm_R H (jm_R H r0 1) 2)) (jm_R (jm_pR H r0 13 (jm_R H (jm_R H r0 1) 2)) r0 1) 2 (jm_R H r0 13)) (jm_R (jm_pR (jm_pR H r0 13 (jm_R H (jm_R H r0 1) 2)) (jm_R (jm_pR H r0 13 (jm_R H (jm_R H r0 1) 2)) r0 1) 2 (jm_R H r0 13)) r0 7) 1 (jm_I H (jm_R (jm_pR (jm_pR H r0 13 (jm_R H (jm_R H r0 1) 2)) (jm_R (jm_pR H r0 13 (jm_R H (jm_R H r0 1) 2)) r0 1) 2 (jm_R H r0 13)) r0 13) 4)) (jm_R (jm_pI (jm_pR (jm_pR H r0 13 (jm_R H (jm_R H r0 1) 2)) (jm_R (jm_pR H r0 13 (jm_R H (jm_R H r0 1) 2)) r0 1) 2 (jm_R H r0 13)) (jm_R (jm_pR (jm_pR H r0 13 (jm_R H (jm_R H r0 1) 2)) (jm_R (jm_pR H r0 13 (jm_R H (jm_R H r0 1) 2)) r0 1) 2 (jm_R H r0 13)) r0 7) 1 (jm_I H (jm_R (jm_pR (jm_pR H r0 13 (jm_R H (jm_R H r0 1) 2)) (jm_R (jm_pR H r0 13 (jm_R H (jm_R H r0 1) 2)) r0 1) 2 (jm_R H r0 13)) r0 13) 4)) r0 13) 5)) (jm_R (jm_pI (jm_pI (jm_pR (jm_pR H r0 13 (jm_R H (jm_R H r0 1) 2)) (jm_R (jm_pR H r0 13 (jm_R H (jm_R H r0 1) 2)) r0 1) 2 (jm_R H r0 13)) (jm_R (jm_pR (jm_pR H r0 13 (jm_R H (jm_R H r0 1) 2)) (jm_R (jm_pR H r0 13 (jm_R H (jm_R H r0 1) 2)) r0 1) 2 (jm_R H r0 13)) r0 7) 1 (jm_I H (jm_R (jm_pR (jm_pR H r0 13 (jm_R H (jm_R H r0 1) 2)) (jm_R (jm_pR H r0 13 (jm_R H (jm_R H r0 1) 2)) r0 1) 2 (jm_R H r0 13)) r0 13) 4)) (jm_R (jm_pI (jm_pR (jm_pR H r0 13 (jm_R H (jm_R H r0 1) 2)) (jm_R (jm_pR H r0 13 (jm_R H (jm_R H r0 1) 2)) r0 1) 2 (jm_R H r0 13)) (jm_R (jm_pR (jm_pR H r0 13 (jm_R H (jm_R H r0 1) 2)) (jm_R (jm_pR H r0 13 (jm_R H (jm_R H r0 1) 2)) r0 1) 2 (jm_R H r0 13)) r0 7) 1 (jm_I H (jm_R (jm_pR (jm_pR H r0 13 (jm_R H (jm_R H r0 1) 2)) (jm_R (jm_pR H r0 13 (jm_R H (jm_R H r0 1) 2)) r0 1) 2 (jm_R H r0 13)) r0 13) 4)) r0 7) 2 (jm_I (jm_pI (jm_pR (jm_pR H r0 13 (jm_R H (jm_R H r0 1) 2)) (jm_R (jm_pR H r0 13 (jm_R H (jm_R H r0 1) 2)) r0 1) 2 (jm_R H r0 13)) (jm_R (jm_pR (jm_pR H r0 13 (jm_R H (jm_R H r0 1) 2)) (jm_R (jm_pR H r0 13 (jm_R H (jm_R H r0 1) 2)) r0 1) 2 (jm_R H r0 13)) r0 7) 1 (jm_I H (jm_R (jm_pR (jm_pR H r0 13 (jm_R H (jm_R H r0 1) 2)) (jm_R (jm_pR H r0 13 (jm_R H (jm_R H r0 1) 2)) r0 1) 2 (jm_R H r0 13)) r0 13) 4)) (jm_R (jm_pI (jm_pR (jm_pR H r0 13 (jm_R H (jm_R H r0 1) 2)) (jm_R (jm_pR H r0 13 (jm_R H (jm_R H r0 1) 2)) r0 1) 2 (jm_R H r0 13)) (jm_R (jm_pR (jm_pR H r0 13 (jm_R H (jm_R H r0 1) 2)) (jm_R (jm_pR H r0 13 (jm_R H (jm_R H r0 1) 2)) r0 1) 2 (jm_R H r0 13)) r0 7) 1 (jm_I H (jm_R (jm_pR (jm_pR H r0 13 (jm_R H (jm_R H r0 1) 2)) (jm_R (jm_pR H r0 13 (jm_R H (jm_R H r0 1) 2)) r0 1) 2 (jm_R H r0 13)) r0 13) 4)) r0 13) 5)) r0 7) 0 = 0) (h20 : jm_tg H (jm_R (jm_pI (jm_pI (jm_pR (jm_pR H r0 13 (jm_R H (jm_R H r0 1) 2)) (jm_R (jm_pR H r0 13 (jm_R H (jm_R H r0 1) 2)) r0 1) 2 (jm_R H r0 13)) (jm_R (jm_pR (jm_pR H r0 13 (jm_R H (jm_R H r0 1) 2)) (jm_R (jm_pR H r0 13 (jm_R H (jm_R H r0 1) 2)) r0 1) 2 (jm_R H r0 13)) r0 7) 1 (jm_I H (jm_R (jm_pR (jm_pR H r0 13 (jm_R H (jm_R H r0 1) 2)) (jm_R (jm_pR H r0 13 (jm_R H (jm_R H r0 1) 2)) r0 1) 2 (jm_R H r0 13)) r0 13) 4)) (jm_R (jm_pI (jm_pR (jm_pR H r0 13 (jm_R H (jm_R H r0 1) 2)) (jm_R (jm_pR H r0 13 (jm_R H (jm_R H r0 1) 2)) r0 1) 2 (jm_R H r0 13)) (jm_R (jm_pR (jm_pR H r0 13 (jm_R H (jm_R H r0 1) 2)) (jm_R (jm_pR H r0 13 (jm_R H (jm_R H r0 1) 2)) r0 1) 2 (jm_R H r0 13)) r0 7) 1 (jm_I H (jm_R (jm_pR (jm_pR H r0 13 (jm_R H (jm_R H r0 1) 2)) (jm_R (jm_pR H r0 13 (jm_R H (jm_R H r0 1) 2)) r0 1) 2 (jm_R H r0 13)) r0 13) 4)) r0 7) 2 (jm_I (jm_pI (jm_pR (jm_pR H r0 13 (jm_R H (jm_R H r0 1) 2)) (jm_R (jm_pR H r0 13 (jm_R H (jm_R H r0 1) 2)) r0 1) 2 (jm_R H r0 13)) (jm_R (jm_pR (jm_pR H r0 13 (jm_R H (jm_R H r0 1) 2)) (jm_R (jm_pR H r0 13 (jm_R H (jm_R H r0 1) 2)) r0 1) 2 (jm_R H r0 13)) r0 7) 1 (jm_I H (jm_R (jm_pR (jm_pR H r0 13 (jm_R H (jm_R H r0 1) 2)) (jm_R (jm_pR H r0 13 (jm_R H (jm_R H r0 1) 2)) r0 1) 2 (jm_R H r0 13)) r0 13) 4)) (jm_R (jm_pI (jm_pR (jm_pR H r0 13 (jm_R H (jm_R H r0 1) 2)) (jm_R (jm_pR H r0 13 (jm_R H (jm_R H r0 1) 2)) r0 1) 2 (jm_R H r0 13)) (jm_R (jm_pR (jm_pR H r0 13 (jm_R H (jm_R H r0 1) 2)) (jm_R (jm_pR H r0 13 (jm_R H (jm_R H r0 1) 2)) r0 1) 2 (jm_R H r0 13)) r0 7) 1 (jm_I H (jm_R (jm_pR (jm_pR H r0 13 (jm_R H (jm_R H r0 1) 2)) (jm_R (jm_pR H r0 13 (jm_R H (jm_R H r0 1) 2)) r0 1) 2 (jm_R H r0 13)) r0 13) 4)) r0 13) 5)) (jm_R (jm_pI (jm_pI (jm_pR (jm_pR H r0 13 (jm_R H (jm_R H r0 1) 2)) (jm_R (jm_pR H r0 13 (jm_R H (jm_R H r0 1) 2)) r0 1) 2 (jm_R H r0 13)) (jm_R (jm_pR (jm_pR H r0 13 (jm_R H (jm_R H r0 1) 2)) (jm_R (jm_pR H r0 13 (jm_R H (jm_R H r0 1) 2)) r0 1) 2 (jm_R H r0 13)) r0 7) 1 (jm_I H (jm_R (jm_pR (jm_pR H r0 13 (jm_R H (jm_R H r0 1) 2)) (jm_R (jm_pR H r0 13 (jm_R H (jm_R H r0 1) 2)) r0 1) 2 (jm_R H r0 13)) r0 13) 4)) (jm_R (jm_pI (jm_pR (jm_pR H r0 13 (jm_R H (jm_R H r0 1) 2)) (jm_R (jm_pR H r0 13 (jm_R H (jm_R H r0 1) 2)) r0 1) 2 (jm_R H r0 13)) (jm_R (jm_pR (jm_pR H r0 13 (jm_R H (jm_R H r0 1) 2)) (jm_R (jm_pR H r0 13 (jm_R H (jm_R H r0 1) 2)) r0 1) 2 (jm_R H r0 13)) r0 7) 1 (jm_I H (jm_R (jm_pR (jm_pR H r0 13 (jm_R H (jm_R H r0 1) 2)) (jm_R (jm_pR H r0 13 (jm_R H (jm_R H r0 1) 2)) r0 1) 2 (jm_R H r0 13)) r0 13) 4)) r0 7) 2 (jm_I (jm_pI (jm_pR (jm_pR H r0 13 (jm_R H (jm_R H r0 1) 2)) (jm_R (jm_pR H r0 13 (jm_R H (jm_R H r0 1) 2)) r0 1) 2 (jm_R H r0 13)) (jm_R (jm_pR (jm_pR H r0 13 (jm_R H (jm_R H r0 1) 2)) (jm_R (jm_pR H r0 13 (jm_R H (jm_R H r0 1) 2)) r0 1) 2 (jm_R H r0 13)) r0 7) 1 (jm_I H (jm_R (jm_pR (jm_pR H r0 13 (jm_R H (jm_R H r0 1) 2)) (jm_R (jm_pR H r0 13 (jm_R H (jm_R H r0 1) 2)) r0 1) 2 (jm_R H r0 13)) r0 13) 4)) (jm_R (jm_pI (jm_pR (jm_pR H r0 13 (jm_R H (jm_R H r0 1) 2)) (jm_R (jm_pR H r0 13 (jm_R H (jm_R H r0 1) 2)) r0 1) 2 (jm_R H r0 13)) (jm_R (jm_pR (jm_pR H r0 13 (jm_R H (jm_R H r0 1) 2)) (jm_R (jm_pR H r0 13 (jm_R H (jm_R H r0 1) 2)) r0 1) 2 (jm_R H r0 13)) r0 7) 1 (jm_I H (jm_R (jm_pR (jm_pR H r0 13 (jm_R H (jm_R H r0 1) 2)) (jm_R (jm_pR H r0 13 (jm_R H (jm_R H r0 1) 2)) r0 1) 2 (jm_R H r0 13)) r0 13) 4)) r0 13) 5)) r0 7) 0) = 8) : jm_w S 2 41 0 [.ref r0, .null, .null] [] H Q = jm_c S 42 [.ref (jm_R (jm_pI (jm_pI (jm_pR (jm_pR H r0 13 (jm_R H (jm_R H r0 1) 2)) (jm_R (jm_pR H r0 13 (jm_R H (jm_R H r0 1) 2)) r0 1) 2 (jm_R H r0 13)) (jm_R (jm_pR (jm_pR H r0 13 (jm_R H (jm_R H r0 1) 2)) (jm_R (jm_pR H r0 13 (jm_R H (jm_R H r0 1) 2)) r0 1) 2 (jm_R H r0 13)) r0 7) 1 (jm_I H (jm_R (jm_pR (jm_pR H r0 13 (jm_R H (jm_R H r0 1) 2)) (jm_R (jm_pR H r0 13 (jm_R H (jm_R H r0 1) 2)) r0 1) 2 (jm_R H r0 13)) r0 13) 4)) (jm_R (jm_pI (jm_pR (jm_pR H r0 13 (jm_R H (jm_R H r0 1) 2)) (jm_R (jm_pR H r0 13 (jm_R H (jm_R H r0 1) 2)) r0 1) 2 (jm_R H r0 13)) (jm_R (jm_pR (jm_pR H r0 13 (jm_R H (jm_R H r0 1) 2)) (jm_R (jm_pR H r0 13 (jm_R H (jm_R H r0 1) 2)) r0 1) 2 (jm_R H r0 13)) r0 7) 1 (jm_I H (jm_R (jm_pR (jm_pR H r0 13 (jm_R H (jm_R H r0 1) 2)) (jm_R (jm_pR H r0 13 (jm_R H (jm_R H r0 1) 2)) r0 1) 2 (jm_R H r0 13)) r0 13) 4)) r0 7) 2 (jm_I (jm_pI (jm_pR (jm_pR H r0 13 (jm_R H (jm_R H r0 1) 2)) (jm_R (jm_pR H r0 13 (jm_R H (jm_R H r0 1) 2)) r0 1) 2 (jm_R H r0 13)) (jm_R (jm_pR (jm_pR H r0 13 (jm_R H (jm_R H r0 1) 2)) (jm_R (jm_pR H r0 13 (jm_R H (jm_R H r0 1) 2)) r0 1) 2 (jm_R H r0 13)) r0 7) 1 (jm_I H (jm_R (jm_pR (jm_pR H r0 13 (jm_R H (jm_R H r0 1) 2)) (jm_R (jm_pR H r0 13 (jm_R H (jm_R H r0 1) 2)) r0 1) 2 (jm_R H r0 13)) r0 13) 4)) (jm_R (jm_pI (jm_pR (jm_pR H r0 13 (jm_R H (jm_R H r0 1) 2)) (jm_R (jm_pR H r0 13 (jm_R H (jm_R H r0 1) 2)) r0 1) 2 (jm_R H r0 13)) (jm_R (jm_pR (jm_pR H r0 13 (jm_R H (jm_R H r0 1) 2)) (jm_R (jm_pR H r0 13 (jm_R H (jm_R H r0 1) 2)) r0 1) 2 (jm_R H r0 13)) r0 7) 1 (jm_I H (jm_R (jm_pR (jm_pR H r0 13 (jm_R H (jm_R H r0 1) 2)) (jm_R (jm_pR H r0 13 (jm_R H (jm_R H r0 1) 2)) r0 1) 2 (jm_R H r0 13)) r0 13) 4)) r0 13) 5)) (jm_R (jm_pI (jm_pI (jm_pR (jm_pR H r0 13 (jm_R H (jm_R H r0 1) 2)) (jm_R (jm_pR H r0 13 (jm_R H (jm_R H r0 1) 2)) r0 1) 2 (jm_R H r0 13)) (jm_R (jm_pR (jm_pR H r0 13 (jm_R H (jm_R H r0 1) 2)) (jm_R (jm_pR H r0 13 (jm_R H (jm_R H r0 1) 2)) r0 1) 2 (jm_R H r0 13)) r0 7) 1 (jm_I H (jm_R (jm_pR (jm_pR H r0 13 (jm_R H (jm_R H r0 1) 2)) (jm_R (jm_pR H r0 13 (jm_R H (jm_R H r0 1) 2)) r0 1) 2 (jm_R H r0 13)) r0 13) 4)) (jm_R (jm_pI (jm_pR (jm_pR H r0 13 (jm_R H (jm_R H r0 1) 2)) (jm_R (jm_pR H r0 13 (jm_R H (jm_R H r0 1) 2)) r0 1) 2 (jm_R H r0 13)) (jm_R (jm_pR (jm_pR H r0 13 (jm_R H (jm_R H r0 1) 2)) (jm_R (jm_pR H r0 13 (jm_R H (jm_R H r0 1) 2)) r0 1) 2 (jm_R H r0 13)) r0 7) 1 (jm_I H (jm_R (jm_pR (jm_pR H r0 13 (jm_R H (jm_R H r0 1) 2)) (jm_R (jm_pR H r0 13 (jm_R H (jm_R H r0 1) 2)) r0 1) 2 (jm_R H r0 13)) r0 13) 4)) r0 7) 2 (jm_I (jm_pI (jm_pR (jm_pR H r0 13 (jm_R H (jm_R H r0 1) 2)) (jm_R (jm_pR H r0 13 (jm_R H (jm_R H r0 1) 2)) r0 1) 2 (jm_R H r0 13)) (jm_R (jm_pR (jm_pR H r0 13 (jm_R H (jm_R H r0 1) 2)) (jm_R (jm_pR H r0 13 (jm_R H (jm_R H r0 1) 2)) r0 1) 2 (jm_R H r0 13)) r0 7) 1 (jm_I H (jm_R (jm_pR (jm_pR H r0 13 (jm_R H (jm_R H r0 1) 2)) (jm_R (jm_pR H r0 13 (jm_R H (jm_R H r0 1) 2)) r0 1) 2 (jm_R H r0 13)) r0 13) 4)) (jm_R (jm_pI (jm_pR (jm_pR H r0 13 (jm_R H (jm_R H r0 1) 2)) (jm_R (jm_pR H r0 13 (jm_R H (jm_R H r0 1) 2)) r0 1) 2 (jm_R H r0 13)) (jm_R (jm_pR (jm_pR H r0 13 (jm_R H (jm_R H r0 1) 2)) (jm_R (jm_pR H r0 13 (jm_R H (jm_R H r0 1) 2)) r0 1) 2 (jm_R H r0 13)) r0 7) 1 (jm_I H (jm_R (jm_pR (jm_pR H r0 13 (jm_R H (jm_R H r0 1) 2)) (jm_R (jm_pR H r0 13 (jm_R H (jm_R H r0 1) 2)) r0 1) 2 (jm_R H r0 13)) r0 13) 4)) r0 13) 5)) r0 7) 0)] (jm_pI (jm_pI (jm_pR (jm_pR H r0 13 (jm_R H (jm_R H r0 1) 2)) (jm_R (jm_pR H r0 13 (jm_R H (jm_R H r0 1) 2)) r0 1) 2 (jm_R H r0 13)) (jm_R (jm_pR (jm_pR H r0 13 (jm_R H (jm_R H r0 1) 2)) (jm_R (jm_pR H r0 13 (jm_R H (jm_R H r0 1) 2)) r0 1) 2 (jm_R H r0 13)) r0 7) 1 (jm_I H (jm_R (jm_pR (jm_pR H r0 13 (jm_R H (jm_R H r0 1) 2)) (jm_R (jm_pR H r0 13 (jm_R H (jm_R H r0 1) 2)) r0 1) 2 (jm_R H r0 13)) r0 13) 4)) (jm_R (jm_pI (jm_pR (jm_pR H r0 13 (jm_R H (jm_R H r0 1) 2)) (jm_R (jm_pR H r0 13 (jm_R H (jm_R H r0 1) 2)) r0 1) 2 (jm_R H r0 13)) (jm_R (jm_pR (jm_pR H r0 13 (jm_R H (jm_R H r0 1) 2)) (jm_R (jm_pR H r0 13 (jm_R H (jm_R H r0 1) 2)) r0 1) 2 (jm_R H r0 13)) r0 7) 1 (jm_I H (jm_R (jm_pR (jm_pR H r0 13 (jm_R H (jm_R H r0 1) 2)) (jm_R (jm_pR H r0 13 (jm_R H (jm_R H r0 1) 2)) r0 1) 2 (jm_R H r0 13)) r0 13) 4)) r0 7) 2 (jm_I (jm_pI (jm_pR (jm_pR H r0 13 (jm_R H (jm_R H r0 1) 2)) (jm_R (jm_pR H r0 13 (jm_R H (jm_R H r0 1) 2)) r0 1) 2 (jm_R H r0 13)) (jm_R (jm_pR (jm_pR H r0 13 (jm_R H (jm_R H r0 1) 2)) (jm_R (jm_pR H r0 13 (jm_R H (jm_R H r0 1) 2)) r0 1) 2 (jm_R H r0 13)) r0 7) 1 (jm_I H (jm_R (jm_pR (jm_pR H r0 13 (jm_R H (jm_R H r0 1) 2)) (jm_R (jm_pR H r0 13 (jm_R H (jm_R H r0 1) 2)) r0 1) 2 (jm_R H r0 13)) r0 13) 4)) (jm_R (jm_pI (jm_pR (jm_pR H r0 13 (jm_R H (jm_R H r0 1) 2)) (jm_R (jm_pR H r0 13 (jm_R H (jm_R H r0 1) 2)) r0 1) 2 (jm_R H r0 13)) (jm_R (jm_pR (jm_pR H r0 13 (jm_R H (jm_R H r0 1) 2)) (jm_R (jm_pR H r0 13 (jm_R H (jm_R H r0 1) 2)) r0 1) 2 (jm_R H r0 13)) r0 7) 1 (jm_I H (jm_R (jm_pR (jm_pR H r0 13 (jm_R H (jm_R H r0 1) 2)) (jm_R (jm_pR H r0 13 (jm_R H (jm_R H r0 1) 2)) r0 1) 2 (jm_R H r0 13)) r0 13) 4)) r0 13) 5)) (fun v G => jm_w S 2 41 62 [.ref r0, .ref (jm_R H r0 13), .null] (v.toList ++ []) G Q) := (js1 at41_0 rfl rfl rfl).trans ((jsgR (H := H) at41_1 rv41g_87 rfl h0 h1 rfl).trans ((js1 at41_4 rfl rfl rfl).trans ((js1 at41_5 rfl rfl rfl).trans ((js1 at41_6 rfl rfl rfl).trans ((jsgR (H := H) at41_7 rv41g_10 rfl h0 h2 rfl).trans ((jsgR (H := H) at41_10 rv41g_124 rfl h3 h4 rfl).trans ((jspR (H := H) at41_13 rv41p_87 rfl h0 h5 rfl).trans ((js1 at41_16 rfl rfl rfl).trans ((jsgR (H := (jm_pR H r0 13 (jm_R H (jm_R H r0 1) 2))) at41_17 rv41g_10 rfl h0 h6 rfl).trans ((js1 at41_20 rfl rfl rfl).trans ((jspR (H := (jm_pR H r0 13 (jm_R H (jm_R H r0 1) 2))) at41_21 rv41p_124 rfl h7 h8 rfl).trans ((js1 at41_24 rfl rfl rfl).trans ((jsgR (H := (jm_pR (jm_pR H r0 13 (jm_R H (jm_R H r0 1) 2)) (jm_R (jm_pR H r0 13 (jm_R H (jm_R H r0 1) 2)) r0 1) 2 (jm_R H r0 13))) at41_25 rv41g_53 rfl h0 h9 rfl).trans ((js1 at41_28 rfl rfl rfl).trans ((jsgR (H := (jm_pR (jm_pR H r0 13 (jm_R H (jm_R H r0 1) 2)) (jm_R (jm_pR H r0 13 (jm_R H (jm_R H r0 1) 2)) r0 1) 2 (jm_R H r0 13))) at41_29 rv41g_87 rfl h0 h10 rfl).trans ((jsgI (H := (jm_pR (jm_pR H r0 13 (jm_R H (jm_R H r0 1) 2)) (jm_R (jm_pR H r0 13 (jm_R H (jm_R H r0 1) 2)) r0 1) 2 (jm_R H r0 13))) at41_32 rv41g_125 (Or.inl rfl) h11 rfl).trans ((jspI (H := (jm_pR (jm_pR H r0 13 (jm_R H (jm_R H r0 1) 2)) (jm_R (jm_pR H r0 13 (jm_R H (jm_R H r0 1) 2)) r0 1) 2 (jm_R H r0 13))) at41_35 rv41p_114 rfl h12 rfl).trans ((js1 at41_38 rfl rfl rfl).trans ((jsgR (H := (jm_pI (jm_pR (jm_pR H r0 13 (jm_R H (jm_R H r0 1) 2)) (jm_R (jm_pR H r0 13 (jm_R H (jm_R H r0 1) 2)) r0 1) 2 (jm_R H r0 13)) (jm_R (jm_pR (jm_pR H r0 13 (jm_R H (jm_R H r0 1) 2)) (jm_R (jm_pR H r0 13 (jm_R H (jm_R H r0 1) 2)) r0 1) 2 (jm_R H r0 13)) r0 7) 1 (jm_I H (jm_R (jm_pR (jm_pR H r0 13 (jm_R H (jm_R H r0 1) 2)) (jm_R (jm_pR H r0 13 (jm_R H (jm_R H r0 1) 2)) r0 1) 2 (jm_R H r0 13)) r0 13) 4))) at41_39 rv41g_53 rfl h0 h13 rfl).trans ((js1 at41_42 rfl rfl rfl).trans ((jsgR (H := (jm_pI (jm_pR (jm_pR H r0 13 (jm_R H (jm_R H r0 1) 2)) (jm_R (jm_pR H r0 13 (jm_R H (jm_R H r0 1) 2)) r0 1) 2 (jm_R H r0 13)) (jm_R (jm_pR (jm_pR H r0 13 (jm_R H (jm_R H r0 1) 2)) (jm_R (jm_pR H r0 13 (jm_R H (jm_R H r0 1) 2)) r0 1) 2 (jm_R H r0 13)) r0 7) 1 (jm_I H (jm_R (jm_pR (jm_pR H r0 13 (jm_R H (jm_R H r0 1) 2)) (jm_R (jm_pR H r0 13 (jm_R H (jm_R H r0 1) 2)) r0 1) 2 (jm_R H r0 13)) r0 13) 4))) at41_43 rv41g_87 rfl h0 h14 rfl).trans ((jsgI (H := (jm_pI (jm_pR (jm_pR H r0 13 (jm_R H (jm_R H r0 1) 2)) (jm_R (jm_pR H r0 13 (jm_R H (jm_R H r0 1) 2)) r0 1) 2 (jm_R H r0 13)) (jm_R (jm_pR (jm_pR H r0 13 (jm_R H (jm_R H r0 1) 2)) (jm_R (jm_pR H r0 13 (jm_R H (jm_R H r0 1) 2)) r0 1) 2 (jm_R H r0 13)) r0 7) 1 (jm_I H (jm_R (jm_pR (jm_pR H r0 13 (jm_R H (jm_R H r0 1) 2)) (jm_R (jm_pR H r0 13 (jm_R H (jm_R H r0 1) 2)) r0 1) 2 (jm_R H r0 13)) r0 13) 4))) at41_46 rv41g_126 (Or.inl rfl) h15 rfl).trans ((jspI (H := (jm_pI (jm_pR (jm_pR H r0 13 (jm_R H (jm_R H r0 1) 2)) (jm_R (jm_pR H r0 13 (jm_R H (jm_R H r0 1) 2)) r0 1) 2 (jm_R H r0 13)) (jm_R (jm_pR (jm_pR H r0 13 (jm_R H (jm_R H r0 1) 2)) (jm_R (jm_pR H r0 13 (jm_R H (jm_R H r0 1) 2)) r0 1) 2 (jm_R H r0 13)) r0 7) 1 (jm_I H (jm_R (jm_pR (jm_pR H r0 13 (jm_R H (jm_R H r0 1) 2)) (jm_R (jm_pR H r0 13 (jm_R H (jm_R H r0 1) 2)) r0 1) 2 (jm_R H r0 13)) r0 13) 4))) at41_49 rv41p_117 rfl h16 rfl).trans ((js1 at41_52 rfl rfl rfl).trans ((jsgR (H := (jm_pI (jm_pI (jm_pR (jm_pR H r0 13 (jm_R H (jm_R H r0 1) 2)) (jm_R (jm_pR H r0 13 (jm_R H (jm_R H r0 1) 2)) r0 1) 2 (jm_R H r0 13)) (jm_R (jm_pR (jm_pR H r0 13 (jm_R H (jm_R H r0 1) 2)) (jm_R (jm_pR H r0 13 (jm_R H (jm_R H r0 1) 2)) r0 1) 2 (jm_R H r0 13)) r0 7) 1 (jm_I H (jm_R (jm_pR (jm_pR H r0 13 (jm_R H (jm_R H r0 1) 2)) (jm_R (jm_pR H r0 13 (jm_R H (jm_R H r0 1) 2)) r0 1) 2 (jm_R H r0 13)) r0 13) 4)) (jm_R (jm_pI (jm_pR (jm_pR H r0 13 (jm_R H (jm_R H r0 1) 2)) (jm_R (jm_pR H r0 13 (jm_R H (jm_R H r0 1) 2)) r0 1) 2 (jm_R H r0 13)) (jm_R (jm_pR (jm_pR H r0 13 (jm_R H (jm_R H r0 1) 2)) (jm_R (jm_pR H r0 13 (jm_R H (jm_R H r0 1) 2)) r0 1) 2 (jm_R H r0 13)) r0 7) 1 (jm_I H (jm_R (jm_pR (jm_pR H r0 13 (jm_R H (jm_R H r0 1) 2)) (jm_R (jm_pR H r0 13 (jm_R H (jm_R H r0 1) 2)) r0 1) 2 (jm_R H r0 13)) r0 13) 4)) r0 7) 2 (jm_I (jm_pI (jm_pR (jm_pR H r0 13 (jm_R H (jm_R H r0 1) 2)) (jm_R (jm_pR H r0 13 (jm_R H (jm_R H r0 1) 2)) r0 1) 2 (jm_R H r0 13)) (jm_R (jm_pR (jm_pR H r0 13 (jm_R H (jm_R H r0 1) 2)) (jm_R (jm_pR H r0 13 (jm_R H (jm_R H r0 1) 2)) r0 1) 2 (jm_R H r0 13)) r0 7) 1 (jm_I H (jm_R (jm_pR (jm_pR H r0 13 (jm_R H (jm_R H r0 1) 2)) (jm_R (jm_pR H r0 13 (jm_R H (jm_R H r0 1) 2)) r0 1) 2 (jm_R H r0 13)) r0 13) 4)) (jm_R (jm_pI (jm_pR (jm_pR H r0 13 (jm_R H (jm_R H r0 1) 2)) (jm_R (jm_pR H r0 13 (jm_R H (jm_R H r0 1) 2)) r0 1) 2 (jm_R H r0 13)) (jm_R (jm_pR (jm_pR H r0 13 (jm_R H (jm_R H r0 1) 2)) (jm_R (jm_pR H r0 13 (jm_R H (jm_R H r0 1) 2)) r0 1) 2 (jm_R H r0 13)) r0 7) 1 (jm_I H (jm_R (jm_pR (jm_pR H r0 13 (jm_R H (jm_R H r0 1) 2)) (jm_R (jm_pR H r0 13 (jm_R H (jm_R H r0 1) 2)) r0 1) 2 (jm_R H r0 13)) r0 13) 4)) r0 13) 5))) at41_53 rv41g_53 rfl h0 h17 rfl).trans ((jsgR (H := (jm_pI (jm_pI (jm_pR (jm_pR H r0 13 (jm_R H (jm_R H r0 1) 2)) (jm_R (jm_pR H r0 13 (jm_R H (jm_R H r0 1) 2)) r0 1) 2 (jm_R H r0 13)) (jm_R (jm_pR (jm_pR H r0 13 (jm_R H (jm_R H r0 1) 2)) (jm_R (jm_pR H r0 13 (jm_R H (jm_R H r0 1) 2)) r0 1) 2 (jm_R H r0 13)) r0 7) 1 (jm_I H (jm_R (jm_pR (jm_pR H r0 13 (jm_R H (jm_R H r0 1) 2)) (jm_R (jm_pR H r0 13 (jm_R H (jm_R H r0 1) 2)) r0 1) 2 (jm_R H r0 13)) r0 13) 4)) (jm_R (jm_pI (jm_pR (jm_pR H r0 13 (jm_R H (jm_R H r0 1) 2)) (jm_R (jm_pR H r0 13 (jm_R H (jm_R H r0 1) 2)) r0 1) 2 (jm_R H r0 13)) (jm_R (jm_pR (jm_pR H r0 13 (jm_R H (jm_R H r0 1) 2)) (jm_R (jm_pR H r0 13 (jm_R H (jm_R H r0 1) 2)) r0 1) 2 (jm_R H r0 13)) r0 7) 1 (jm_I H (jm_R (jm_pR (jm_pR H r0 13 (jm_R H (jm_R H r0 1) 2)) (jm_R (jm_pR H r0 13 (jm_R H (jm_R H r0 1) 2)) r0 1) 2 (jm_R H r0 13)) r0 13) 4)) r0 7) 2 (jm_I (jm_pI (jm_pR (jm_pR H r0 13 (jm_R H (jm_R H r0 1) 2)) (jm_R (jm_pR H r0 13 (jm_R H (jm_R H r0 1) 2)) r0 1) 2 (jm_R H r0 13)) (jm_R (jm_pR (jm_pR H r0 13 (jm_R H (jm_R H r0 1) 2)) (jm_R (jm_pR H r0 13 (jm_R H (jm_R H r0 1) 2)) r0 1) 2 (jm_R H r0 13)) r0 7) 1 (jm_I H (jm_R (jm_pR (jm_pR H r0 13 (jm_R H (jm_R H r0 1) 2)) (jm_R (jm_pR H r0 13 (jm_R H (jm_R H r0 1) 2)) r0 1) 2 (jm_R H r0 13)) r0 13) 4)) (jm_R (jm_pI (jm_pR (jm_pR H r0 13 (jm_R H (jm_R H r0 1) 2)) (jm_R (jm_pR H r0 13 (jm_R H (jm_R H r0 1) 2)) r0 1) 2 (jm_R H r0 13)) (jm_R (jm_pR (jm_pR H r0 13 (jm_R H (jm_R H r0 1) 2)) (jm_R (jm_pR H r0 13 (jm_R H (jm_R H r0 1) 2)) r0 1) 2 (jm_R H r0 13)) r0 7) 1 (jm_I H (jm_R (jm_pR (jm_pR H r0 13 (jm_R H (jm_R H r0 1) 2)) (jm_R (jm_pR H r0 13 (jm_R H (jm_R H r0 1) 2)) r0 1) 2 (jm_R H r0 13)) r0 13) 4)) r0 13) 5))) at41_56 rv41g_127 rfl h18 h19 rfl).trans (jscall (H := (jm_pI (jm_pI (jm_pR (jm_pR H r0 13 (jm_R H (jm_R H r0 1) 2)) (jm_R (jm_pR H r0 13 (jm_R H (jm_R H r0 1) 2)) r0 1) 2 (jm_R H r0 13)) (jm_R (jm_pR (jm_pR H r0 13 (jm_R H (jm_R H r0 1) 2)) (jm_R (jm_pR H r0 13 (jm_R H (jm_R H r0 1) 2)) r0 1) 2 (jm_R H r0 13)) r0 7) 1 (jm_I H (jm_R (jm_pR (jm_pR H r0 13 (jm_R H (jm_R H r0 1) 2)) (jm_R (jm_pR H r0 13 (jm_R H (jm_R H r0 1) 2)) r0 1) 2 (jm_R H r0 13)) r0 13) 4)) (jm_R (jm_pI (jm_pR (jm_pR H r0 13 (jm_R H (jm_R H r0 1) 2)) (jm_R (jm_pR H r0 13 (jm_R H (jm_R H r0 1) 2)) r0 1) 2 (jm_R H r0 13)) (jm_R (jm_pR (jm_pR H r0 13 (jm_R H (jm_R H r0 1) 2)) (jm_R (jm_pR H r0 13 (jm_R H (jm_R H r0 1) 2)) r0 1) 2 (jm_R H r0 13)) r0 7) 1 (jm_I H (jm_R (jm_pR (jm_pR H r0 13 (jm_R H (jm_R H r0 1) 2)) (jm_R (jm_pR H r0 13 (jm_R H (jm_R H r0 1) 2)) r0 1) 2 (jm_R H r0 13)) r0 13) 4)) r0 7) 2 (jm_I (jm_pI (jm_pR (jm_pR H r0 13 (jm_R H (jm_R H r0 1) 2)) (jm_R (jm_pR H r0 13 (jm_R H (jm_R H r0 1) 2)) r0 1) 2 (jm_R H r0 13)) (jm_R (jm_pR (jm_pR H r0 13 (jm_R H (jm_R H r0 1) 2)) (jm_R (jm_pR H r0 13 (jm_R H (jm_R H r0 1) 2)) r0 1) 2 (jm_R H r0 13)) r0 7) 1 (jm_I H (jm_R (jm_pR (jm_pR H r0 13 (jm_R H (jm_R H r0 1) 2)) (jm_R (jm_pR H r0 13 (jm_R H (jm_R H r0 1) 2)) r0 1) 2 (jm_R H r0 13)) r0 13) 4)) (jm_R (jm_pI (jm_pR (jm_pR H r0 13 (jm_R H (jm_R H r0 1) 2)) (jm_R (jm_pR H r0 13 (jm_R H (jm_R H r0 1) 2)) r0 1) 2 (jm_R H r0 13)) (jm_R (jm_pR (jm_pR H r0 13 (jm_R H (jm_R H r0 1) 2)) (jm_R (jm_pR H r0 13 (jm_R H (jm_R H r0 1) 2)) r0 1) 2 (jm_R H r0 13)) r0 7) 1 (jm_I H (jm_R (jm_pR (jm_pR H r0 13 (jm_R H (jm_R H r0 1) 2)) (jm_R (jm_pR H r0 13 (jm_R H (jm_R H r0 1) 2)) r0 1) 2 (jm_R H r0 13)) r0 13) 4)) r0 13) 5))) (as := [.ref (jm_R (jm_pI (jm_pI (jm_pR (jm_pR H r0 13 (jm_R H (jm_R H r0 1) 2)) (jm_R (jm_pR H r0 13 (jm_R H (jm_R H r0 1) 2)) r0 1) 2 (jm_R H r0 13)) (jm_R (jm_pR (jm_pR H r0 13 (jm_R H (jm_R H r0 1) 2)) (jm_R (jm_pR H r0 13 (jm_R H (jm_R H r0 1) 2)) r0 1) 2 (jm_R H r0 13)) r0 7) 1 (jm_I H (jm_R (jm_pR (jm_pR H r0 13 (jm_R H (jm_R H r0 1) 2)) (jm_R (jm_pR H r0 13 (jm_R H (jm_R H r0 1) 2)) r0 1) 2 (jm_R H r0 13)) r0 13) 4)) (jm_R (jm_pI (jm_pR (jm_pR H r0 13 (jm_R H (jm_R H r0 1) 2)) (jm_R (jm_pR H r0 13 (jm_R H (jm_R H r0 1) 2)) r0 1) 2 (jm_R H r0 13)) (jm_R (jm_pR (jm_pR H r0 13 (jm_R H (jm_R H r0 1) 2)) (jm_R (jm_pR H r0 13 (jm_R H (jm_R H r0 1) 2)) r0 1) 2 (jm_R H r0 13)) r0 7) 1 (jm_I H (jm_R (jm_pR (jm_pR H r0 13 (jm_R H (jm_R H r0 1) 2)) (jm_R (jm_pR H r0 13 (jm_R H (jm_R H r0 1) 2)) r0 1) 2 (jm_R H r0 13)) r0 13) 4)) r0 7) 2 (jm_I (jm_pI (jm_pR (jm_pR H r0 13 (jm_R H (jm_R H r0 1) 2)) (jm_R (jm_pR H r0 13 (jm_R H (jm_R H r0 1) 2)) r0 1) 2 (jm_R H r0 13)) (jm_R (jm_pR (jm_pR H r0 13 (jm_R H (jm_R H r0 1) 2)) (jm_R (jm_pR H r0 13 (jm_R H (jm_R H r0 1) 2)) r0 1) 2 (jm_R H r0 13)) r0 7) 1 (jm_I H (jm_R (jm_pR (jm_pR H r0 13 (jm_R H (jm_R H r0 1) 2)) (jm_R (jm_pR H r0 13 (jm_R H (jm_R H r0 1) 2)) r0 1) 2 (jm_R H r0 13)) r0 13) 4)) (jm_R (jm_pI (jm_pR (jm_pR H r0 13 (jm_R H (jm_R H r0 1) 2)) (jm_R (jm_pR H r0 13 (jm_R H (jm_R H r0 1) 2)) r0 1) 2 (jm_R H r0 13)) (jm_R (jm_pR (jm_pR H r0 13 (jm_R H (jm_R H r0 1) 2)) (jm_R (jm_pR H r0 13 (jm_R H (jm_R H r0 1) 2)) r0 1) 2 (jm_R H r0 13)) r0 7) 1 (jm_I H (jm_R (jm_pR (jm_pR H r0 13 (jm_R H (jm_R H r0 1) 2)) (jm_R (jm_pR H r0 13 (jm_R H (jm_R H r0 1) 2)) r0 1) 2 (jm_R H r0 13)) r0 13) 4)) r0 13) 5)) (jm_R (jm_pI (jm_pI (jm_pR (jm_pR H r0 13 (jm_R H (jm_R H r0 1) 2)) (jm_R (jm_pR H r0 13 (jm_R H (jm_R H r0 1) 2)) r0 1) 2 (jm_R H r0 13)) (jm_R (jm_pR (jm_pR H r0 13 (jm_R H (jm_R H r0 1) 2)) (jm_R (jm_pR H r0 13 (jm_R H (jm_R H r0 1) 2)) r0 1) 2 (jm_R H r0 13)) r0 7) 1 (jm_I H (jm_R (jm_pR (jm_pR H r0 13 (jm_R H (jm_R H r0 1) 2)) (jm_R (jm_pR H r0 13 (jm_R H (jm_R H r0 1) 2)) r0 1) 2 (jm_R H r0 13)) r0 13) 4)) (jm_R (jm_pI (jm_pR (jm_pR H r0 13 (jm_R H (jm_R H r0 1) 2)) (jm_R (jm_pR H r0 13 (jm_R H (jm_R H r0 1) 2)) r0 1) 2 (jm_R H r0 13)) (jm_R (jm_pR (jm_pR H r0 13 (jm_R H (jm_R H r0 1) 2)) (jm_R (jm_pR H r0 13 (jm_R H (jm_R H r0 1) 2)) r0 1) 2 (jm_R H r0 13)) r0 7) 1 (jm_I H (jm_R (jm_pR (jm_pR H r0 13 (jm_R H (jm_R H r0 1) 2)) (jm_R (jm_pR H r0 13 (jm_R H (jm_R H r0 1) 2)) r0 1) 2 (jm_R H r0 13)) r0 13) 4)) r0 7) 2 (jm_I (jm_pI (jm_pR (jm_pR H r0 13 (jm_R H (jm_R H r0 1) 2)) (jm_R (jm_pR H r0 13 (jm_R H (jm_R H r0 1) 2)) r0 1) 2 (jm_R H r0 13)) (jm_R (jm_pR (jm_pR H r0 13 (jm_R H (jm_R H r0 1) 2)) (jm_R (jm_pR H r0 13 (jm_R H (jm_R H r0 1) 2)) r0 1) 2 (jm_R H r0 13)) r0 7) 1 (jm_I H (jm_R (jm_pR (jm_pR H r0 13 (jm_R H (jm_R H r0 1) 2)) (jm_R (jm_pR H r0 13 (jm_R H (jm_R H r0 1) 2)) r0 1) 2 (jm_R H r0 13)) r0 13) 4)) (jm_R (jm_pI (jm_pR (jm_pR H r0 13 (jm_R H (jm_R H r0 1) 2)) (jm_R (jm_pR H r0 13 (jm_R H (jm_R H r0 1) 2)) r0 1) 2 (jm_R H r0 13)) (jm_R (jm_pR (jm_pR H r0 13 (jm_R H (jm_R H r0 1) 2)) (jm_R (jm_pR H r0 13 (jm_R H (jm_R H r0 1) 2)) r0 1) 2 (jm_R H r0 13)) r0 7) 1 (jm_I H (jm_R (jm_pR (jm_pR H r0 13 (jm_R H (jm_R H r0 1) 2)) (jm_R (jm_pR H r0 13 (jm_R H (jm_R H r0 1) 2)) r0 1) 2 (jm_R H r0 13)) r0 13) 4)) r0 13) 5)) r0 7) 0)]) (q := []) at41_59 rfl rv41i_131 (jscutV rfl rfl rfl (Nat.le_of_ble_eq_true rfl) rfl h20) rfl (Nat.le_of_ble_eq_true rfl) rfl rfl)))))))))))))))))))))))))))
theorem at41_62 : jm_at 41 62 = some (.aload_n 0) := by decide +kernel
theorem at41_63 : jm_at 41 63 = some (.iconst 0) := by decide +kernel
theorem at41_64 : jm_at 41 64 = some (.putfield 136) := by decide +kernel
theorem rv41p_136 : jm_rv 41 (.putfield 136) = (0, 11, 15, 0) := by decide +kernel
theorem at41_67 : jm_at 41 67 = some (.iconst 0) := by decide +kernel
theorem at41_68 : jm_at 41 68 = some (.istore_n 2) := by decide +kernel
theorem u41_62 {S : Option (Nat × (Nat → Int32))} {H : jm_H} {Q : Option Value → jm_H → Prop} {r0 r1 : Nat} (h0 : jm_tg H r0 = 12) : jm_w S 2 41 62 [.ref r0, .ref r1, .null] [] H Q = jm_w S 2 41 69 [.ref r0, .ref r1, .int (0 : Int32)] [] (jm_pI H r0 15 (0 : Int32)) Q := (js1 at41_62 rfl rfl rfl).trans ((jsci at41_63 rfl rfl).trans ((jspI (H := H) at41_64 rv41p_136 rfl h0 rfl).trans ((jsci at41_67 rfl rfl).trans (js1 at41_68 rfl rfl rfl))))
theorem at41_69 : jm_at 41 69 = some (.iload_n 2) := by decide +kernel
theorem at41_70 : jm_at 41 70 = some (.aload_n 0) := by decide +kernel
theorem at41_71 : jm_at 41 71 = some (.getfield 63) := by decide +kernel
theorem rv41g_63 : jm_rv 41 (.getfield 63) = (0, 11, 9, 0) := by decide +kernel
theorem at41_74 : jm_at 41 74 = some (.arraylength) := by decide +kernel
theorem at41_75 : jm_at 41 75 = some (.if_icmp .ge 19) := by decide +kernel
theorem u41_69 {S : Option (Nat × (Nat → Int32))} {H : jm_H} {Q : Option Value → jm_H → Prop} {r0 r1 : Nat} {x2 : Int32} (h0 : jm_tg H r0 = 12) (h1 : ¬ jm_R H r0 9 = 0) (h2 : ¬ (jm_R H r0 9) = 1) (h3 : 100 ≤ jm_tg H (jm_R H r0 9)) : jm_w S 2 41 69 [.ref r0, .ref r1, .int x2] [] H Q = if (Int32.ofNat (jm_ln H (jm_R H r0 9))) ≤ x2 then jm_w S 2 41 94 [.ref r0, .ref r1, .int x2] [] H Q else jm_w S 2 41 78 [.ref r0, .ref r1, .int x2] [] H Q := (js1 at41_69 rfl rfl rfl).trans ((js1 at41_70 rfl rfl rfl).trans ((jsgR (H := H) at41_71 rv41g_63 rfl h0 h1 rfl).trans ((jsaln (H := H) at41_74 h2 h3 rfl).trans (jsif (P := (Int32.ofNat (jm_ln H (jm_R H r0 9))) ≤ x2) at41_75 rfl rfl))))
theorem at41_78 : jm_at 41 78 = some (.aload_n 0) := by decide +kernel
theorem at41_79 : jm_at 41 79 = some (.getfield 63) := by decide +kernel
theorem at41_82 : jm_at 41 82 = some (.iload_n 2) := by decide +kernel
theorem at41_83 : jm_at 41 83 = some (.aaload) := by decide +kernel
theorem at41_84 : jm_at 41 84 = some (.iconst 0) := by decide +kernel
theorem at41_85 : jm_at 41 85 = some (.putfield 139) := by decide +kernel
theorem rv41p_139 : jm_rv 41 (.putfield 139) = (0, 5, 2, 0) := by decide +kernel
theorem at41_88 : jm_at 41 88 = some (.iinc 2 1) := by decide +kernel
theorem at41_91 : jm_at 41 91 = some (.goto (-22)) := by decide +kernel
theorem u41_78 {S : Option (Nat × (Nat → Int32))} {H : jm_H} {Q : Option Value → jm_H → Prop} {r0 r1 : Nat} {x2 : Int32} (h0 : jm_tg H r0 = 12) (h1 : ¬ jm_R H r0 9 = 0) (h2 : ¬ (x2 < 0 ∨ jm_ln H (jm_R H r0 9) ≤ Int32.toNatClampNeg x2)) (h3 : jm_tg H (jm_R H r0 9) = 104 ∨ jm_tg H (jm_R H r0 9) = 105) (h4 : ¬ jm_R H (jm_R H r0 9) (Int32.toNatClampNeg x2) = 0) (h5 : jm_tg H (jm_R H (jm_R H r0 9) (Int32.toNatClampNeg x2)) = 6) : jm_w S 2 41 78 [.ref r0, .ref r1, .int x2] [] H Q = jm_w S 2 41 69 [.ref r0, .ref r1, .int (x2 + 1)] [] (jm_pI H (jm_R H (jm_R H r0 9) (Int32.toNatClampNeg x2)) 2 (0 : Int32)) Q := (js1 at41_78 rfl rfl rfl).trans ((jsgR (H := H) at41_79 rv41g_63 rfl h0 h1 rfl).trans ((js1 at41_82 rfl rfl rfl).trans ((jsaal (H := H) at41_83 h3 h2 h4 rfl).trans ((jsci at41_84 rfl rfl).trans ((jspZ (H := H) at41_85 rv41p_139 rfl h5 (by decide) rfl).trans ((jsinc at41_88 rfl rfl rfl).trans (js2 at41_91 rfl rfl)))))))
theorem at41_94 : jm_at 41 94 = some (.return_) := by decide +kernel
theorem u41_94 {S : Option (Nat × (Nat → Int32))} {H : jm_H} {Q : Option Value → jm_H → Prop} {r0 r1 : Nat} {x2 : Int32} : jm_w S 2 41 94 [.ref r0, .ref r1, .int x2] [] H Q = Q none H := jsret_v at41_94 rfl
theorem en41 {S : Option (Nat × (Nat → Int32))} {H : jm_H} {Q : Option Value → jm_H → Prop} {r0 : Nat} : jm_c S 41 [.ref r0] H Q = jm_w S 2 41 0 [.ref r0, .null, .null] [] H Q := rfl
theorem at91_0 : jm_at 91 0 = some (.aload_n 0) := by decide +kernel
theorem at91_1 : jm_at 91 1 = some (.getfield 91) := by decide +kernel
theorem rv91g_91 : jm_rv 91 (.getfield 91) = (0, 11, 16, 0) := by decide +kernel
theorem at91_4 : jm_at 91 4 = some (.ireturn) := by decide +kernel
theorem u91_0 {S : Option (Nat × (Nat → Int32))} {H : jm_H} {Q : Option Value → jm_H → Prop} {r0 : Nat} (h0 : jm_tg H r0 = 12) : jm_w S 1 91 0 [.ref r0] [] H Q = Q (some (.int (jm_I H r0 16))) H := (js1 at91_0 rfl rfl rfl).trans ((jsgI (H := H) at91_1 rv91g_91 (Or.inl rfl) h0 rfl).trans (jsret_i at91_4 rfl))
theorem en91 {S : Option (Nat × (Nat → Int32))} {H : jm_H} {Q : Option Value → jm_H → Prop} {r0 : Nat} : jm_c S 91 [.ref r0] H Q = jm_w S 1 91 0 [.ref r0] [] H Q := rfl
theorem at92_0 : jm_at 92 0 = some (.iload_n 1) := by decide +kernel
theorem at92_1 : jm_at 92 1 = some (.iload_n 2) := by decide +kernel
theorem at92_2 : jm_at 92 2 = some (.invokestatic 143) := by decide +kernel
theorem rv92i_143 : jm_rv 92 (.invokestatic 143) = (1, 93, 0, 0) := by decide +kernel
theorem u92_0 {S : Option (Nat × (Nat → Int32))} {H : jm_H} {Q : Option Value → jm_H → Prop} {r0 : Nat} {x1 x2 : Int32} : jm_w S 8 92 0 [.ref r0, .int x1, .int x2] [] H Q = jm_c S 93 [.int x1, .int x2] H (fun v G => jm_w S 8 92 5 [.ref r0, .int x1, .int x2] (v.toList ++ []) G Q) := (js1 at92_0 rfl rfl rfl).trans ((js1 at92_1 rfl rfl rfl).trans (jscall (H := H) (as := [.int x1, .int x2]) (q := []) at92_2 rfl rv92i_143 (jscut rfl rfl rfl (Nat.le_of_ble_eq_true rfl)) rfl (Nat.le_of_ble_eq_true rfl) rfl rfl))
theorem at92_5 : jm_at 92 5 = some (.ifCond .eq 25) := by decide +kernel
theorem u92_5 {S : Option (Nat × (Nat → Int32))} {H : jm_H} {Q : Option Value → jm_H → Prop} {r0 : Nat} {x1 x2 p0 : Int32} : jm_w S 8 92 5 [.ref r0, .int x1, .int x2] [.int p0] H Q = if p0 = 0 then jm_w S 8 92 30 [.ref r0, .int x1, .int x2] [] H Q else jm_w S 8 92 8 [.ref r0, .int x1, .int x2] [] H Q := jsif (P := p0 = 0) at92_5 rfl rfl
theorem at92_8 : jm_at 92 8 = some (.iload_n 1) := by decide +kernel
theorem at92_9 : jm_at 92 9 = some (.aload_n 0) := by decide +kernel
theorem at92_10 : jm_at 92 10 = some (.getfield 53) := by decide +kernel
theorem rv92g_53 : jm_rv 92 (.getfield 53) = (0, 11, 7, 0) := by decide +kernel
theorem at92_13 : jm_at 92 13 = some (.getfield 114) := by decide +kernel
theorem rv92g_114 : jm_rv 92 (.getfield 114) = (0, 6, 1, 0) := by decide +kernel
theorem at92_16 : jm_at 92 16 = some (.if_icmp .ne 16) := by decide +kernel
theorem u92_8 {S : Option (Nat × (Nat → Int32))} {H : jm_H} {Q : Option Value → jm_H → Prop} {r0 : Nat} {x1 x2 : Int32} (h0 : jm_tg H r0 = 12) (h1 : ¬ jm_R H r0 7 = 0) (h2 : jm_tg H (jm_R H r0 7) = 7) : jm_w S 8 92 8 [.ref r0, .int x1, .int x2] [] H Q = if ¬ x1 = (jm_I H (jm_R H r0 7) 1) then jm_w S 8 92 32 [.ref r0, .int x1, .int x2] [] H Q else jm_w S 8 92 19 [.ref r0, .int x1, .int x2] [] H Q := (js1 at92_8 rfl rfl rfl).trans ((js1 at92_9 rfl rfl rfl).trans ((jsgR (H := H) at92_10 rv92g_53 rfl h0 h1 rfl).trans ((jsgI (H := H) at92_13 rv92g_114 (Or.inl rfl) h2 rfl).trans (jsif (P := ¬ x1 = (jm_I H (jm_R H r0 7) 1)) at92_16 rfl rfl))))
theorem at92_19 : jm_at 92 19 = some (.iload_n 2) := by decide +kernel
theorem at92_20 : jm_at 92 20 = some (.aload_n 0) := by decide +kernel
theorem at92_21 : jm_at 92 21 = some (.getfield 53) := by decide +kernel
theorem at92_24 : jm_at 92 24 = some (.getfield 117) := by decide +kernel
theorem rv92g_117 : jm_rv 92 (.getfield 117) = (0, 6, 2, 0) := by decide +kernel
theorem at92_27 : jm_at 92 27 = some (.if_icmp .ne 5) := by decide +kernel
theorem u92_19 {S : Option (Nat × (Nat → Int32))} {H : jm_H} {Q : Option Value → jm_H → Prop} {r0 : Nat} {x1 x2 : Int32} (h0 : jm_tg H r0 = 12) (h1 : ¬ jm_R H r0 7 = 0) (h2 : jm_tg H (jm_R H r0 7) = 7) : jm_w S 8 92 19 [.ref r0, .int x1, .int x2] [] H Q = if ¬ x2 = (jm_I H (jm_R H r0 7) 2) then jm_w S 8 92 32 [.ref r0, .int x1, .int x2] [] H Q else jm_w S 8 92 30 [.ref r0, .int x1, .int x2] [] H Q := (js1 at92_19 rfl rfl rfl).trans ((js1 at92_20 rfl rfl rfl).trans ((jsgR (H := H) at92_21 rv92g_53 rfl h0 h1 rfl).trans ((jsgI (H := H) at92_24 rv92g_117 (Or.inl rfl) h2 rfl).trans (jsif (P := ¬ x2 = (jm_I H (jm_R H r0 7) 2)) at92_27 rfl rfl))))
theorem at92_30 : jm_at 92 30 = some (.iconst 0) := by decide +kernel
theorem at92_31 : jm_at 92 31 = some (.ireturn) := by decide +kernel
theorem u92_30 {S : Option (Nat × (Nat → Int32))} {H : jm_H} {Q : Option Value → jm_H → Prop} {r0 : Nat} {x1 x2 : Int32} : jm_w S 8 92 30 [.ref r0, .int x1, .int x2] [] H Q = Q (some (.int (0 : Int32))) H := (jsci at92_30 rfl rfl).trans (jsret_z at92_31 rfl (by decide))
theorem at92_32 : jm_at 92 32 = some (.aload_n 0) := by decide +kernel
theorem at92_33 : jm_at 92 33 = some (.invokevirtual 149) := by decide +kernel
theorem rv92i_149 : jm_rv 92 (.invokevirtual 149) = (2, 94, 0, 0) := by decide +kernel
theorem u92_32 {S : Option (Nat × (Nat → Int32))} {H : jm_H} {Q : Option Value → jm_H → Prop} {r0 : Nat} {x1 x2 : Int32} (h0 : jm_tg H r0 = 12) : jm_w S 8 92 32 [.ref r0, .int x1, .int x2] [] H Q = jm_c S 94 [.ref r0] H (fun v G => jm_w S 8 92 36 [.ref r0, .int x1, .int x2] (v.toList ++ []) G Q) := (js1 at92_32 rfl rfl rfl).trans (jscall (H := H) (as := [.ref r0]) (q := []) at92_33 rfl rv92i_149 (jscutV rfl rfl rfl (Nat.le_of_ble_eq_true rfl) rfl h0) rfl (Nat.le_of_ble_eq_true rfl) rfl rfl)
theorem at92_36 : jm_at 92 36 = some (.aload_n 0) := by decide +kernel
theorem at92_37 : jm_at 92 37 = some (.getfield 53) := by decide +kernel
theorem at92_40 : jm_at 92 40 = some (.iload_n 1) := by decide +kernel
theorem at92_41 : jm_at 92 41 = some (.putfield 114) := by decide +kernel
theorem rv92p_114 : jm_rv 92 (.putfield 114) = (0, 6, 1, 0) := by decide +kernel
theorem at92_44 : jm_at 92 44 = some (.aload_n 0) := by decide +kernel
theorem at92_45 : jm_at 92 45 = some (.getfield 53) := by decide +kernel
theorem at92_48 : jm_at 92 48 = some (.iload_n 2) := by decide +kernel
theorem at92_49 : jm_at 92 49 = some (.putfield 117) := by decide +kernel
theorem rv92p_117 : jm_rv 92 (.putfield 117) = (0, 6, 2, 0) := by decide +kernel
theorem at92_52 : jm_at 92 52 = some (.aload_n 0) := by decide +kernel
theorem at92_53 : jm_at 92 53 = some (.getfield 24) := by decide +kernel
theorem rv92g_24 : jm_rv 92 (.getfield 24) = (0, 11, 2, 0) := by decide +kernel
theorem at92_56 : jm_at 92 56 = some (.aload_n 0) := by decide +kernel
theorem at92_57 : jm_at 92 57 = some (.getfield 87) := by decide +kernel
theorem rv92g_87 : jm_rv 92 (.getfield 87) = (0, 11, 13, 0) := by decide +kernel
theorem at92_60 : jm_at 92 60 = some (.aload_n 0) := by decide +kernel
theorem at92_61 : jm_at 92 61 = some (.getfield 53) := by decide +kernel
theorem at92_64 : jm_at 92 64 = some (.getfield 114) := by decide +kernel
theorem at92_67 : jm_at 92 67 = some (.aload_n 0) := by decide +kernel
theorem at92_68 : jm_at 92 68 = some (.getfield 53) := by decide +kernel
theorem at92_71 : jm_at 92 71 = some (.getfield 117) := by decide +kernel
theorem at92_74 : jm_at 92 74 = some (.aload_n 0) := by decide +kernel
theorem at92_75 : jm_at 92 75 = some (.getfield 68) := by decide +kernel
theorem rv92g_68 : jm_rv 92 (.getfield 68) = (0, 11, 10, 0) := by decide +kernel
theorem at92_78 : jm_at 92 78 = some (.invokevirtual 120) := by decide +kernel
theorem rv92i_120 : jm_rv 92 (.invokevirtual 120) = (2, 43, 0, 0) := by decide +kernel
theorem u92_36 {S : Option (Nat × (Nat → Int32))} {H : jm_H} {Q : Option Value → jm_H → Prop} {r0 : Nat} {x1 x2 : Int32} (h0 : jm_tg H r0 = 12) (h1 : ¬ jm_R H r0 7 = 0) (h2 : jm_tg H (jm_R H r0 7) = 7) (h3 : ¬ jm_R H r0 2 = 0) (h4 : ¬ jm_R H r0 13 = 0) (h5 : ¬ jm_R H r0 10 = 0) (h6 : jm_tg H (jm_R H r0 2) = 11) : jm_w S 8 92 36 [.ref r0, .int x1, .int x2] [] H Q = jm_c S 43 [.ref (jm_R H r0 2), .ref (jm_R H r0 13), .int (jm_I (jm_pI (jm_pI H (jm_R H r0 7) 1 x1) (jm_R H r0 7) 2 x2) (jm_R H r0 7) 1), .int (jm_I (jm_pI (jm_pI H (jm_R H r0 7) 1 x1) (jm_R H r0 7) 2 x2) (jm_R H r0 7) 2), .ref (jm_R H r0 10)] (jm_pI (jm_pI H (jm_R H r0 7) 1 x1) (jm_R H r0 7) 2 x2) (fun v G => jm_w S 8 92 81 [.ref r0, .int x1, .int x2] (v.toList ++ []) G Q) := (js1 at92_36 rfl rfl rfl).trans ((jsgR (H := H) at92_37 rv92g_53 rfl h0 h1 rfl).trans ((js1 at92_40 rfl rfl rfl).trans ((jspI (H := H) at92_41 rv92p_114 rfl h2 rfl).trans ((js1 at92_44 rfl rfl rfl).trans ((jsgR (H := (jm_pI H (jm_R H r0 7) 1 x1)) at92_45 rv92g_53 rfl h0 h1 rfl).trans ((js1 at92_48 rfl rfl rfl).trans ((jspI (H := (jm_pI H (jm_R H r0 7) 1 x1)) at92_49 rv92p_117 rfl h2 rfl).trans ((js1 at92_52 rfl rfl rfl).trans ((jsgR (H := (jm_pI (jm_pI H (jm_R H r0 7) 1 x1) (jm_R H r0 7) 2 x2)) at92_53 rv92g_24 rfl h0 h3 rfl).trans ((js1 at92_56 rfl rfl rfl).trans ((jsgR (H := (jm_pI (jm_pI H (jm_R H r0 7) 1 x1) (jm_R H r0 7) 2 x2)) at92_57 rv92g_87 rfl h0 h4 rfl).trans ((js1 at92_60 rfl rfl rfl).trans ((jsgR (H := (jm_pI (jm_pI H (jm_R H r0 7) 1 x1) (jm_R H r0 7) 2 x2)) at92_61 rv92g_53 rfl h0 h1 rfl).trans ((jsgI (H := (jm_pI (jm_pI H (jm_R H r0 7) 1 x1) (jm_R H r0 7) 2 x2)) at92_64 rv92g_114 (Or.inl rfl) h2 rfl).trans ((js1 at92_67 rfl rfl rfl).trans ((jsgR (H := (jm_pI (jm_pI H (jm_R H r0 7) 1 x1) (jm_R H r0 7) 2 x2)) at92_68 rv92g_53 rfl h0 h1 rfl).trans ((jsgI (H := (jm_pI (jm_pI H (jm_R H r0 7) 1 x1) (jm_R H r0 7) 2 x2)) at92_71 rv92g_117 (Or.inl rfl) h2 rfl).trans ((js1 at92_74 rfl rfl rfl).trans ((jsgR (H := (jm_pI (jm_pI H (jm_R H r0 7) 1 x1) (jm_R H r0 7) 2 x2)) at92_75 rv92g_68 rfl h0 h5 rfl).trans (jscall (H := (jm_pI (jm_pI H (jm_R H r0 7) 1 x1) (jm_R H r0 7) 2 x2)) (as := [.ref (jm_R H r0 2), .ref (jm_R H r0 13), .int (jm_I (jm_pI (jm_pI H (jm_R H r0 7) 1 x1) (jm_R H r0 7) 2 x2) (jm_R H r0 7) 1), .int (jm_I (jm_pI (jm_pI H (jm_R H r0 7) 1 x1) (jm_R H r0 7) 2 x2) (jm_R H r0 7) 2), .ref (jm_R H r0 10)]) (q := []) at92_78 rfl rv92i_120 (jscutV rfl rfl rfl (Nat.le_of_ble_eq_true rfl) rfl h6) rfl (Nat.le_of_ble_eq_true rfl) rfl rfl))))))))))))))))))))
theorem at92_81 : jm_at 92 81 = some (.iconst 1) := by decide +kernel
theorem at92_82 : jm_at 92 82 = some (.ireturn) := by decide +kernel
theorem u92_81 {S : Option (Nat × (Nat → Int32))} {H : jm_H} {Q : Option Value → jm_H → Prop} {r0 : Nat} {x1 x2 : Int32} : jm_w S 8 92 81 [.ref r0, .int x1, .int x2] [] H Q = Q (some (.int (1 : Int32))) H := (jsci at92_81 rfl rfl).trans (jsret_z at92_82 rfl (by decide))
theorem en92 {S : Option (Nat × (Nat → Int32))} {H : jm_H} {Q : Option Value → jm_H → Prop} {r0 : Nat} {x1 x2 : Int32} : jm_c S 92 [.ref r0, .int x1, .int x2] H Q = jm_w S 8 92 0 [.ref r0, .int x1, .int x2] [] H Q := rfl
theorem at94_0 : jm_at 94 0 = some (.aload_n 0) := by decide +kernel
theorem at94_1 : jm_at 94 1 = some (.getfield 136) := by decide +kernel
theorem rv94g_136 : jm_rv 94 (.getfield 136) = (0, 11, 15, 0) := by decide +kernel
theorem at94_4 : jm_at 94 4 = some (.bipush 40) := by decide +kernel
theorem at94_6 : jm_at 94 6 = some (.if_icmp .lt 24) := by decide +kernel
theorem u94_0 {S : Option (Nat × (Nat → Int32))} {H : jm_H} {Q : Option Value → jm_H → Prop} {r0 : Nat} (h0 : jm_tg H r0 = 12) : jm_w S 3 94 0 [.ref r0] [] H Q = if (jm_I H r0 15) < (40 : Int32) then jm_w S 3 94 30 [.ref r0] [] H Q else jm_w S 3 94 9 [.ref r0] [] H Q := (js1 at94_0 rfl rfl rfl).trans ((jsgI (H := H) at94_1 rv94g_136 (Or.inl rfl) h0 rfl).trans ((jscb at94_4 rfl rfl).trans (jsif (P := (jm_I H r0 15) < (40 : Int32)) at94_6 rfl rfl)))
theorem at94_9 : jm_at 94 9 = some (.aload_n 0) := by decide +kernel
theorem at94_10 : jm_at 94 10 = some (.aload_n 0) := by decide +kernel
theorem at94_11 : jm_at 94 11 = some (.getfield 170) := by decide +kernel
theorem rv94g_170 : jm_rv 94 (.getfield 170) = (0, 11, 14, 0) := by decide +kernel
theorem at94_14 : jm_at 94 14 = some (.iconst 1) := by decide +kernel
theorem at94_15 : jm_at 94 15 = some (.iadd) := by decide +kernel
theorem at94_16 : jm_at 94 16 = some (.bipush 40) := by decide +kernel
theorem at94_18 : jm_at 94 18 = some (.invokestatic 173) := by decide +kernel
theorem rv94i_173 : jm_rv 94 (.invokestatic 173) = (1, 95, 0, 0) := by decide +kernel
theorem u94_9 {S : Option (Nat × (Nat → Int32))} {H : jm_H} {Q : Option Value → jm_H → Prop} {r0 : Nat} (h0 : jm_tg H r0 = 12) : jm_w S 3 94 9 [.ref r0] [] H Q = jm_c S 95 [.int ((jm_I H r0 14) + (1 : Int32)), .int (40 : Int32)] H (fun v G => jm_w S 3 94 21 [.ref r0] (v.toList ++ [.ref r0]) G Q) := (js1 at94_9 rfl rfl rfl).trans ((js1 at94_10 rfl rfl rfl).trans ((jsgI (H := H) at94_11 rv94g_170 (Or.inl rfl) h0 rfl).trans ((jsci at94_14 rfl rfl).trans ((js0 at94_15 rfl rfl rfl).trans ((jscb at94_16 rfl rfl).trans (jscall (H := H) (as := [.int ((jm_I H r0 14) + (1 : Int32)), .int (40 : Int32)]) (q := [.ref r0]) at94_18 rfl rv94i_173 (jscut rfl rfl rfl (Nat.le_of_ble_eq_true rfl)) rfl (Nat.le_of_ble_eq_true rfl) rfl rfl))))))
theorem at94_21 : jm_at 94 21 = some (.putfield 170) := by decide +kernel
theorem rv94p_170 : jm_rv 94 (.putfield 170) = (0, 11, 14, 0) := by decide +kernel
theorem at94_24 : jm_at 94 24 = some (.aload_n 0) := by decide +kernel
theorem at94_25 : jm_at 94 25 = some (.bipush 39) := by decide +kernel
theorem at94_27 : jm_at 94 27 = some (.putfield 136) := by decide +kernel
theorem rv94p_136 : jm_rv 94 (.putfield 136) = (0, 11, 15, 0) := by decide +kernel
theorem u94_21 {S : Option (Nat × (Nat → Int32))} {H : jm_H} {Q : Option Value → jm_H → Prop} {r0 o0 : Nat} {p1 : Int32} (h0 : jm_tg H o0 = 12) (h1 : jm_tg H r0 = 12) : jm_w S 3 94 21 [.ref r0] [.int p1, .ref o0] H Q = jm_w S 3 94 30 [.ref r0] [] (jm_pI (jm_pI H o0 14 p1) r0 15 (39 : Int32)) Q := (jspI (H := H) at94_21 rv94p_170 rfl h0 rfl).trans ((js1 at94_24 rfl rfl rfl).trans ((jscb at94_25 rfl rfl).trans (jspI (H := (jm_pI H o0 14 p1)) at94_27 rv94p_136 rfl h1 rfl)))
theorem at94_30 : jm_at 94 30 = some (.aload_n 0) := by decide +kernel
theorem at94_31 : jm_at 94 31 = some (.getfield 57) := by decide +kernel
theorem rv94g_57 : jm_rv 94 (.getfield 57) = (0, 11, 8, 0) := by decide +kernel
theorem at94_34 : jm_at 94 34 = some (.aload_n 0) := by decide +kernel
theorem at94_35 : jm_at 94 35 = some (.getfield 170) := by decide +kernel
theorem at94_38 : jm_at 94 38 = some (.aload_n 0) := by decide +kernel
theorem at94_39 : jm_at 94 39 = some (.getfield 136) := by decide +kernel
theorem at94_42 : jm_at 94 42 = some (.iadd) := by decide +kernel
theorem at94_43 : jm_at 94 43 = some (.bipush 40) := by decide +kernel
theorem at94_45 : jm_at 94 45 = some (.invokestatic 173) := by decide +kernel
theorem u94_30 {S : Option (Nat × (Nat → Int32))} {H : jm_H} {Q : Option Value → jm_H → Prop} {r0 : Nat} (h0 : jm_tg H r0 = 12) (h1 : ¬ jm_R H r0 8 = 0) : jm_w S 3 94 30 [.ref r0] [] H Q = jm_c S 95 [.int ((jm_I H r0 14) + (jm_I H r0 15)), .int (40 : Int32)] H (fun v G => jm_w S 3 94 48 [.ref r0] (v.toList ++ [.ref (jm_R H r0 8)]) G Q) := (js1 at94_30 rfl rfl rfl).trans ((jsgR (H := H) at94_31 rv94g_57 rfl h0 h1 rfl).trans ((js1 at94_34 rfl rfl rfl).trans ((jsgI (H := H) at94_35 rv94g_170 (Or.inl rfl) h0 rfl).trans ((js1 at94_38 rfl rfl rfl).trans ((jsgI (H := H) at94_39 rv94g_136 (Or.inl rfl) h0 rfl).trans ((js0 at94_42 rfl rfl rfl).trans ((jscb at94_43 rfl rfl).trans (jscall (H := H) (as := [.int ((jm_I H r0 14) + (jm_I H r0 15)), .int (40 : Int32)]) (q := [.ref (jm_R H r0 8)]) at94_45 rfl rv94i_173 (jscut rfl rfl rfl (Nat.le_of_ble_eq_true rfl)) rfl (Nat.le_of_ble_eq_true rfl) rfl rfl))))))))
theorem at94_48 : jm_at 94 48 = some (.aaload) := by decide +kernel
theorem at94_49 : jm_at 94 49 = some (.aload_n 0) := by decide +kernel
theorem at94_50 : jm_at 94 50 = some (.getfield 53) := by decide +kernel
theorem rv94g_53 : jm_rv 94 (.getfield 53) = (0, 11, 7, 0) := by decide +kernel
theorem at94_53 : jm_at 94 53 = some (.invokevirtual 183) := by decide +kernel
theorem rv94i_183 : jm_rv 94 (.invokevirtual 183) = (2, 96, 0, 0) := by decide +kernel
theorem u94_48 {S : Option (Nat × (Nat → Int32))} {H : jm_H} {Q : Option Value → jm_H → Prop} {r0 o0 : Nat} {p1 : Int32} (h0 : ¬ (p1 < 0 ∨ jm_ln H o0 ≤ Int32.toNatClampNeg p1)) (h1 : jm_tg H o0 = 104 ∨ jm_tg H o0 = 105) (h2 : ¬ jm_R H o0 (Int32.toNatClampNeg p1) = 0) (h3 : jm_tg H r0 = 12) (h4 : ¬ jm_R H r0 7 = 0) (h5 : jm_tg H (jm_R H o0 (Int32.toNatClampNeg p1)) = 7) : jm_w S 3 94 48 [.ref r0] [.int p1, .ref o0] H Q = jm_c S 96 [.ref (jm_R H o0 (Int32.toNatClampNeg p1)), .ref (jm_R H r0 7)] H (fun v G => jm_w S 3 94 56 [.ref r0] (v.toList ++ []) G Q) := (jsaal (H := H) at94_48 h1 h0 h2 rfl).trans ((js1 at94_49 rfl rfl rfl).trans ((jsgR (H := H) at94_50 rv94g_53 rfl h3 h4 rfl).trans (jscall (H := H) (as := [.ref (jm_R H o0 (Int32.toNatClampNeg p1)), .ref (jm_R H r0 7)]) (q := []) at94_53 rfl rv94i_183 (jscutV rfl rfl rfl (Nat.le_of_ble_eq_true rfl) rfl h5) rfl (Nat.le_of_ble_eq_true rfl) rfl rfl)))
theorem at94_56 : jm_at 94 56 = some (.aload_n 0) := by decide +kernel
theorem at94_57 : jm_at 94 57 = some (.dup) := by decide +kernel
theorem at94_58 : jm_at 94 58 = some (.getfield 136) := by decide +kernel
theorem at94_61 : jm_at 94 61 = some (.iconst 1) := by decide +kernel
theorem at94_62 : jm_at 94 62 = some (.iadd) := by decide +kernel
theorem at94_63 : jm_at 94 63 = some (.putfield 136) := by decide +kernel
theorem at94_66 : jm_at 94 66 = some (.return_) := by decide +kernel
theorem u94_56 {S : Option (Nat × (Nat → Int32))} {H : jm_H} {Q : Option Value → jm_H → Prop} {r0 : Nat} (h0 : jm_tg H r0 = 12) : jm_w S 3 94 56 [.ref r0] [] H Q = Q none (jm_pI H r0 15 ((jm_I H r0 15) + (1 : Int32))) := (js1 at94_56 rfl rfl rfl).trans ((js0 at94_57 rfl rfl rfl).trans ((jsgI (H := H) at94_58 rv94g_136 (Or.inl rfl) h0 rfl).trans ((jsci at94_61 rfl rfl).trans ((js0 at94_62 rfl rfl rfl).trans ((jspI (H := H) at94_63 rv94p_136 rfl h0 rfl).trans (jsret_v at94_66 rfl))))))
theorem en94 {S : Option (Nat × (Nat → Int32))} {H : jm_H} {Q : Option Value → jm_H → Prop} {r0 : Nat} : jm_c S 94 [.ref r0] H Q = jm_w S 3 94 0 [.ref r0] [] H Q := rfl
theorem at98_0 : jm_at 98 0 = some (.aload_n 0) := by decide +kernel
theorem at98_1 : jm_at 98 1 = some (.getfield 53) := by decide +kernel
theorem rv98g_53 : jm_rv 98 (.getfield 53) = (0, 11, 7, 0) := by decide +kernel
theorem at98_4 : jm_at 98 4 = some (.getfield 114) := by decide +kernel
theorem rv98g_114 : jm_rv 98 (.getfield 114) = (0, 6, 1, 0) := by decide +kernel
theorem at98_7 : jm_at 98 7 = some (.aload_n 0) := by decide +kernel
theorem at98_8 : jm_at 98 8 = some (.getfield 53) := by decide +kernel
theorem at98_11 : jm_at 98 11 = some (.getfield 117) := by decide +kernel
theorem rv98g_117 : jm_rv 98 (.getfield 117) = (0, 6, 2, 0) := by decide +kernel
theorem at98_14 : jm_at 98 14 = some (.iload_n 1) := by decide +kernel
theorem at98_15 : jm_at 98 15 = some (.invokestatic 152) := by decide +kernel
theorem rv98i_152 : jm_rv 98 (.invokestatic 152) = (1, 99, 0, 0) := by decide +kernel
theorem u98_0 {S : Option (Nat × (Nat → Int32))} {H : jm_H} {Q : Option Value → jm_H → Prop} {r0 : Nat} {x1 x2 x3 : Int32} (h0 : jm_tg H r0 = 12) (h1 : ¬ jm_R H r0 7 = 0) (h2 : jm_tg H (jm_R H r0 7) = 7) : jm_w S 4 98 0 [.ref r0, .int x1, .int x2, .int x3] [] H Q = jm_c S 99 [.int (jm_I H (jm_R H r0 7) 1), .int (jm_I H (jm_R H r0 7) 2), .int x1] H (fun v G => jm_w S 4 98 18 [.ref r0, .int x1, .int x2, .int x3] (v.toList ++ []) G Q) := (js1 at98_0 rfl rfl rfl).trans ((jsgR (H := H) at98_1 rv98g_53 rfl h0 h1 rfl).trans ((jsgI (H := H) at98_4 rv98g_114 (Or.inl rfl) h2 rfl).trans ((js1 at98_7 rfl rfl rfl).trans ((jsgR (H := H) at98_8 rv98g_53 rfl h0 h1 rfl).trans ((jsgI (H := H) at98_11 rv98g_117 (Or.inl rfl) h2 rfl).trans ((js1 at98_14 rfl rfl rfl).trans (jscall (H := H) (as := [.int (jm_I H (jm_R H r0 7) 1), .int (jm_I H (jm_R H r0 7) 2), .int x1]) (q := []) at98_15 rfl rv98i_152 (jscut rfl rfl rfl (Nat.le_of_ble_eq_true rfl)) rfl (Nat.le_of_ble_eq_true rfl) rfl rfl)))))))
theorem at98_18 : jm_at 98 18 = some (.ifCond .eq 24) := by decide +kernel
theorem u98_18 {S : Option (Nat × (Nat → Int32))} {H : jm_H} {Q : Option Value → jm_H → Prop} {r0 : Nat} {x1 x2 x3 p0 : Int32} : jm_w S 4 98 18 [.ref r0, .int x1, .int x2, .int x3] [.int p0] H Q = if p0 = 0 then jm_w S 4 98 42 [.ref r0, .int x1, .int x2, .int x3] [] H Q else jm_w S 4 98 21 [.ref r0, .int x1, .int x2, .int x3] [] H Q := jsif (P := p0 = 0) at98_18 rfl rfl
theorem at98_21 : jm_at 98 21 = some (.aload_n 0) := by decide +kernel
theorem at98_22 : jm_at 98 22 = some (.getfield 53) := by decide +kernel
theorem at98_25 : jm_at 98 25 = some (.getfield 114) := by decide +kernel
theorem at98_28 : jm_at 98 28 = some (.aload_n 0) := by decide +kernel
theorem at98_29 : jm_at 98 29 = some (.getfield 53) := by decide +kernel
theorem at98_32 : jm_at 98 32 = some (.getfield 117) := by decide +kernel
theorem at98_35 : jm_at 98 35 = some (.iload_n 2) := by decide +kernel
theorem at98_36 : jm_at 98 36 = some (.invokestatic 152) := by decide +kernel
theorem u98_21 {S : Option (Nat × (Nat → Int32))} {H : jm_H} {Q : Option Value → jm_H → Prop} {r0 : Nat} {x1 x2 x3 : Int32} (h0 : jm_tg H r0 = 12) (h1 : ¬ jm_R H r0 7 = 0) (h2 : jm_tg H (jm_R H r0 7) = 7) : jm_w S 4 98 21 [.ref r0, .int x1, .int x2, .int x3] [] H Q = jm_c S 99 [.int (jm_I H (jm_R H r0 7) 1), .int (jm_I H (jm_R H r0 7) 2), .int x2] H (fun v G => jm_w S 4 98 39 [.ref r0, .int x1, .int x2, .int x3] (v.toList ++ []) G Q) := (js1 at98_21 rfl rfl rfl).trans ((jsgR (H := H) at98_22 rv98g_53 rfl h0 h1 rfl).trans ((jsgI (H := H) at98_25 rv98g_114 (Or.inl rfl) h2 rfl).trans ((js1 at98_28 rfl rfl rfl).trans ((jsgR (H := H) at98_29 rv98g_53 rfl h0 h1 rfl).trans ((jsgI (H := H) at98_32 rv98g_117 (Or.inl rfl) h2 rfl).trans ((js1 at98_35 rfl rfl rfl).trans (jscall (H := H) (as := [.int (jm_I H (jm_R H r0 7) 1), .int (jm_I H (jm_R H r0 7) 2), .int x2]) (q := []) at98_36 rfl rv98i_152 (jscut rfl rfl rfl (Nat.le_of_ble_eq_true rfl)) rfl (Nat.le_of_ble_eq_true rfl) rfl rfl)))))))
theorem at98_39 : jm_at 98 39 = some (.ifCond .ne 5) := by decide +kernel
theorem u98_39 {S : Option (Nat × (Nat → Int32))} {H : jm_H} {Q : Option Value → jm_H → Prop} {r0 : Nat} {x1 x2 x3 p0 : Int32} : jm_w S 4 98 39 [.ref r0, .int x1, .int x2, .int x3] [.int p0] H Q = if ¬ p0 = 0 then jm_w S 4 98 44 [.ref r0, .int x1, .int x2, .int x3] [] H Q else jm_w S 4 98 42 [.ref r0, .int x1, .int x2, .int x3] [] H Q := jsif (P := ¬ p0 = 0) at98_39 rfl rfl
theorem at98_42 : jm_at 98 42 = some (.iconst 0) := by decide +kernel
theorem at98_43 : jm_at 98 43 = some (.ireturn) := by decide +kernel
theorem u98_42 {S : Option (Nat × (Nat → Int32))} {H : jm_H} {Q : Option Value → jm_H → Prop} {r0 : Nat} {x1 x2 x3 : Int32} : jm_w S 4 98 42 [.ref r0, .int x1, .int x2, .int x3] [] H Q = Q (some (.int (0 : Int32))) H := (jsci at98_42 rfl rfl).trans (jsret_z at98_43 rfl (by decide))
theorem at98_44 : jm_at 98 44 = some (.aload_n 0) := by decide +kernel
theorem at98_45 : jm_at 98 45 = some (.invokevirtual 149) := by decide +kernel
theorem rv98i_149 : jm_rv 98 (.invokevirtual 149) = (2, 94, 0, 0) := by decide +kernel
theorem u98_44 {S : Option (Nat × (Nat → Int32))} {H : jm_H} {Q : Option Value → jm_H → Prop} {r0 : Nat} {x1 x2 x3 : Int32} (h0 : jm_tg H r0 = 12) : jm_w S 4 98 44 [.ref r0, .int x1, .int x2, .int x3] [] H Q = jm_c S 94 [.ref r0] H (fun v G => jm_w S 4 98 48 [.ref r0, .int x1, .int x2, .int x3] (v.toList ++ []) G Q) := (js1 at98_44 rfl rfl rfl).trans (jscall (H := H) (as := [.ref r0]) (q := []) at98_45 rfl rv98i_149 (jscutV rfl rfl rfl (Nat.le_of_ble_eq_true rfl) rfl h0) rfl (Nat.le_of_ble_eq_true rfl) rfl rfl)
theorem at98_48 : jm_at 98 48 = some (.aload_n 0) := by decide +kernel
theorem at98_49 : jm_at 98 49 = some (.getfield 43) := by decide +kernel
theorem rv98g_43 : jm_rv 98 (.getfield 43) = (0, 11, 5, 0) := by decide +kernel
theorem at98_52 : jm_at 98 52 = some (.aload_n 0) := by decide +kernel
theorem at98_53 : jm_at 98 53 = some (.getfield 53) := by decide +kernel
theorem at98_56 : jm_at 98 56 = some (.getfield 114) := by decide +kernel
theorem at98_59 : jm_at 98 59 = some (.aload_n 0) := by decide +kernel
theorem at98_60 : jm_at 98 60 = some (.getfield 53) := by decide +kernel
theorem at98_63 : jm_at 98 63 = some (.getfield 117) := by decide +kernel
theorem at98_66 : jm_at 98 66 = some (.iload_n 1) := by decide +kernel
theorem at98_67 : jm_at 98 67 = some (.invokevirtual 156) := by decide +kernel
theorem rv98i_156 : jm_rv 98 (.invokevirtual 156) = (2, 68, 0, 0) := by decide +kernel
theorem u98_48 {S : Option (Nat × (Nat → Int32))} {H : jm_H} {Q : Option Value → jm_H → Prop} {r0 : Nat} {x1 x2 x3 : Int32} (h0 : jm_tg H r0 = 12) (h1 : ¬ jm_R H r0 5 = 0) (h2 : ¬ jm_R H r0 7 = 0) (h3 : jm_tg H (jm_R H r0 7) = 7) (h4 : jm_tg H (jm_R H r0 5) = 3) : jm_w S 4 98 48 [.ref r0, .int x1, .int x2, .int x3] [] H Q = jm_c S 68 [.ref (jm_R H r0 5), .int (jm_I H (jm_R H r0 7) 1), .int (jm_I H (jm_R H r0 7) 2), .int x1] H (fun v G => jm_w S 4 98 70 [.ref r0, .int x1, .int x2, .int x3] (v.toList ++ []) G Q) := (js1 at98_48 rfl rfl rfl).trans ((jsgR (H := H) at98_49 rv98g_43 rfl h0 h1 rfl).trans ((js1 at98_52 rfl rfl rfl).trans ((jsgR (H := H) at98_53 rv98g_53 rfl h0 h2 rfl).trans ((jsgI (H := H) at98_56 rv98g_114 (Or.inl rfl) h3 rfl).trans ((js1 at98_59 rfl rfl rfl).trans ((jsgR (H := H) at98_60 rv98g_53 rfl h0 h2 rfl).trans ((jsgI (H := H) at98_63 rv98g_117 (Or.inl rfl) h3 rfl).trans ((js1 at98_66 rfl rfl rfl).trans (jscall (H := H) (as := [.ref (jm_R H r0 5), .int (jm_I H (jm_R H r0 7) 1), .int (jm_I H (jm_R H r0 7) 2), .int x1]) (q := []) at98_67 rfl rv98i_156 (jscutV rfl rfl rfl (Nat.le_of_ble_eq_true rfl) rfl h4) rfl (Nat.le_of_ble_eq_true rfl) rfl rfl)))))))))
theorem at98_70 : jm_at 98 70 = some (.aload_n 0) := by decide +kernel
theorem at98_71 : jm_at 98 71 = some (.getfield 47) := by decide +kernel
theorem rv98g_47 : jm_rv 98 (.getfield 47) = (0, 11, 6, 0) := by decide +kernel
theorem at98_74 : jm_at 98 74 = some (.aload_n 0) := by decide +kernel
theorem at98_75 : jm_at 98 75 = some (.getfield 53) := by decide +kernel
theorem at98_78 : jm_at 98 78 = some (.getfield 114) := by decide +kernel
theorem at98_81 : jm_at 98 81 = some (.aload_n 0) := by decide +kernel
theorem at98_82 : jm_at 98 82 = some (.getfield 53) := by decide +kernel
theorem at98_85 : jm_at 98 85 = some (.getfield 117) := by decide +kernel
theorem at98_88 : jm_at 98 88 = some (.iload_n 2) := by decide +kernel
theorem at98_89 : jm_at 98 89 = some (.invokevirtual 156) := by decide +kernel
theorem u98_70 {S : Option (Nat × (Nat → Int32))} {H : jm_H} {Q : Option Value → jm_H → Prop} {r0 : Nat} {x1 x2 x3 : Int32} (h0 : jm_tg H r0 = 12) (h1 : ¬ jm_R H r0 6 = 0) (h2 : ¬ jm_R H r0 7 = 0) (h3 : jm_tg H (jm_R H r0 7) = 7) (h4 : jm_tg H (jm_R H r0 6) = 3) : jm_w S 4 98 70 [.ref r0, .int x1, .int x2, .int x3] [] H Q = jm_c S 68 [.ref (jm_R H r0 6), .int (jm_I H (jm_R H r0 7) 1), .int (jm_I H (jm_R H r0 7) 2), .int x2] H (fun v G => jm_w S 4 98 92 [.ref r0, .int x1, .int x2, .int x3] (v.toList ++ []) G Q) := (js1 at98_70 rfl rfl rfl).trans ((jsgR (H := H) at98_71 rv98g_47 rfl h0 h1 rfl).trans ((js1 at98_74 rfl rfl rfl).trans ((jsgR (H := H) at98_75 rv98g_53 rfl h0 h2 rfl).trans ((jsgI (H := H) at98_78 rv98g_114 (Or.inl rfl) h3 rfl).trans ((js1 at98_81 rfl rfl rfl).trans ((jsgR (H := H) at98_82 rv98g_53 rfl h0 h2 rfl).trans ((jsgI (H := H) at98_85 rv98g_117 (Or.inl rfl) h3 rfl).trans ((js1 at98_88 rfl rfl rfl).trans (jscall (H := H) (as := [.ref (jm_R H r0 6), .int (jm_I H (jm_R H r0 7) 1), .int (jm_I H (jm_R H r0 7) 2), .int x2]) (q := []) at98_89 rfl rv98i_156 (jscutV rfl rfl rfl (Nat.le_of_ble_eq_true rfl) rfl h4) rfl (Nat.le_of_ble_eq_true rfl) rfl rfl)))))))))
theorem at98_92 : jm_at 98 92 = some (.aload_n 0) := by decide +kernel
theorem at98_93 : jm_at 98 93 = some (.getfield 53) := by decide +kernel
theorem at98_96 : jm_at 98 96 = some (.getfield 127) := by decide +kernel
theorem rv98g_127 : jm_rv 98 (.getfield 127) = (0, 6, 0, 0) := by decide +kernel
theorem at98_99 : jm_at 98 99 = some (.aload_n 0) := by decide +kernel
theorem at98_100 : jm_at 98 100 = some (.getfield 43) := by decide +kernel
theorem at98_103 : jm_at 98 103 = some (.aload_n 0) := by decide +kernel
theorem at98_104 : jm_at 98 104 = some (.getfield 47) := by decide +kernel
theorem at98_107 : jm_at 98 107 = some (.iload_n 3) := by decide +kernel
theorem at98_108 : jm_at 98 108 = some (.invokevirtual 160) := by decide +kernel
theorem rv98i_160 : jm_rv 98 (.invokevirtual 160) = (2, 80, 0, 0) := by decide +kernel
theorem u98_92 {S : Option (Nat × (Nat → Int32))} {H : jm_H} {Q : Option Value → jm_H → Prop} {r0 : Nat} {x1 x2 x3 : Int32} (h0 : jm_tg H r0 = 12) (h1 : ¬ jm_R H r0 7 = 0) (h2 : jm_tg H (jm_R H r0 7) = 7) (h3 : ¬ jm_R H (jm_R H r0 7) 0 = 0) (h4 : ¬ jm_R H r0 5 = 0) (h5 : ¬ jm_R H r0 6 = 0) (h6 : jm_tg H (jm_R H (jm_R H r0 7) 0) = 8) : jm_w S 4 98 92 [.ref r0, .int x1, .int x2, .int x3] [] H Q = jm_c S 80 [.ref (jm_R H (jm_R H r0 7) 0), .ref (jm_R H r0 5), .ref (jm_R H r0 6), .int x3] H (fun v G => jm_w S 4 98 111 [.ref r0, .int x1, .int x2, .int x3] (v.toList ++ []) G Q) := (js1 at98_92 rfl rfl rfl).trans ((jsgR (H := H) at98_93 rv98g_53 rfl h0 h1 rfl).trans ((jsgR (H := H) at98_96 rv98g_127 rfl h2 h3 rfl).trans ((js1 at98_99 rfl rfl rfl).trans ((jsgR (H := H) at98_100 rv98g_43 rfl h0 h4 rfl).trans ((js1 at98_103 rfl rfl rfl).trans ((jsgR (H := H) at98_104 rv98g_47 rfl h0 h5 rfl).trans ((js1 at98_107 rfl rfl rfl).trans (jscall (H := H) (as := [.ref (jm_R H (jm_R H r0 7) 0), .ref (jm_R H r0 5), .ref (jm_R H r0 6), .int x3]) (q := []) at98_108 rfl rv98i_160 (jscutV rfl rfl rfl (Nat.le_of_ble_eq_true rfl) rfl h6) rfl (Nat.le_of_ble_eq_true rfl) rfl rfl))))))))
theorem at98_111 : jm_at 98 111 = some (.iconst 1) := by decide +kernel
theorem at98_112 : jm_at 98 112 = some (.ireturn) := by decide +kernel
theorem u98_111 {S : Option (Nat × (Nat → Int32))} {H : jm_H} {Q : Option Value → jm_H → Prop} {r0 : Nat} {x1 x2 x3 : Int32} : jm_w S 4 98 111 [.ref r0, .int x1, .int x2, .int x3] [] H Q = Q (some (.int (1 : Int32))) H := (jsci at98_111 rfl rfl).trans (jsret_z at98_112 rfl (by decide))
theorem en98 {S : Option (Nat × (Nat → Int32))} {H : jm_H} {Q : Option Value → jm_H → Prop} {r0 : Nat} {x1 x2 x3 : Int32} : jm_c S 98 [.ref r0, .int x1, .int x2, .int x3] H Q = jm_w S 4 98 0 [.ref r0, .int x1, .int x2, .int x3] [] H Q := rfl
theorem at100_0 : jm_at 100 0 = some (.aload_n 0) := by decide +kernel
theorem at100_1 : jm_at 100 1 = some (.getfield 53) := by decide +kernel
theorem rv100g_53 : jm_rv 100 (.getfield 53) = (0, 11, 7, 0) := by decide +kernel
theorem at100_4 : jm_at 100 4 = some (.getfield 127) := by decide +kernel
theorem rv100g_127 : jm_rv 100 (.getfield 127) = (0, 6, 0, 0) := by decide +kernel
theorem at100_7 : jm_at 100 7 = some (.getfield 164) := by decide +kernel
theorem rv100g_164 : jm_rv 100 (.getfield 164) = (0, 7, 2, 0) := by decide +kernel
theorem at100_10 : jm_at 100 10 = some (.ifCond .ne 18) := by decide +kernel
theorem u100_0 {S : Option (Nat × (Nat → Int32))} {H : jm_H} {Q : Option Value → jm_H → Prop} {r0 : Nat} (h0 : jm_tg H r0 = 12) (h1 : ¬ jm_R H r0 7 = 0) (h2 : jm_tg H (jm_R H r0 7) = 7) (h3 : ¬ jm_R H (jm_R H r0 7) 0 = 0) (h4 : jm_tg H (jm_R H (jm_R H r0 7) 0) = 8) : jm_w S 6 100 0 [.ref r0] [] H Q = if ¬ (jm_I H (jm_R H (jm_R H r0 7) 0) 2) = 0 then jm_w S 6 100 28 [.ref r0] [] H Q else jm_w S 6 100 13 [.ref r0] [] H Q := (js1 at100_0 rfl rfl rfl).trans ((jsgR (H := H) at100_1 rv100g_53 rfl h0 h1 rfl).trans ((jsgR (H := H) at100_4 rv100g_127 rfl h2 h3 rfl).trans ((jsgI (H := H) at100_7 rv100g_164 (Or.inr rfl) h4 rfl).trans (jsif (P := ¬ (jm_I H (jm_R H (jm_R H r0 7) 0) 2) = 0) at100_10 rfl rfl))))
theorem at100_13 : jm_at 100 13 = some (.aload_n 0) := by decide +kernel
theorem at100_14 : jm_at 100 14 = some (.getfield 53) := by decide +kernel
theorem at100_17 : jm_at 100 17 = some (.getfield 127) := by decide +kernel
theorem at100_20 : jm_at 100 20 = some (.invokevirtual 167) := by decide +kernel
theorem rv100i_167 : jm_rv 100 (.invokevirtual 167) = (2, 101, 0, 0) := by decide +kernel
theorem u100_13 {S : Option (Nat × (Nat → Int32))} {H : jm_H} {Q : Option Value → jm_H → Prop} {r0 : Nat} (h0 : jm_tg H r0 = 12) (h1 : ¬ jm_R H r0 7 = 0) (h2 : jm_tg H (jm_R H r0 7) = 7) (h3 : ¬ jm_R H (jm_R H r0 7) 0 = 0) (h4 : jm_tg H (jm_R H (jm_R H r0 7) 0) = 8) : jm_w S 6 100 13 [.ref r0] [] H Q = jm_c S 101 [.ref (jm_R H (jm_R H r0 7) 0)] H (fun v G => jm_w S 6 100 23 [.ref r0] (v.toList ++ []) G Q) := (js1 at100_13 rfl rfl rfl).trans ((jsgR (H := H) at100_14 rv100g_53 rfl h0 h1 rfl).trans ((jsgR (H := H) at100_17 rv100g_127 rfl h2 h3 rfl).trans (jscall (H := H) (as := [.ref (jm_R H (jm_R H r0 7) 0)]) (q := []) at100_20 rfl rv100i_167 (jscutV rfl rfl rfl (Nat.le_of_ble_eq_true rfl) rfl h4) rfl (Nat.le_of_ble_eq_true rfl) rfl rfl)))
theorem at100_23 : jm_at 100 23 = some (.ifCond .ne 5) := by decide +kernel
theorem u100_23 {S : Option (Nat × (Nat → Int32))} {H : jm_H} {Q : Option Value → jm_H → Prop} {r0 : Nat} {p0 : Int32} : jm_w S 6 100 23 [.ref r0] [.int p0] H Q = if ¬ p0 = 0 then jm_w S 6 100 28 [.ref r0] [] H Q else jm_w S 6 100 26 [.ref r0] [] H Q := jsif (P := ¬ p0 = 0) at100_23 rfl rfl
theorem at100_26 : jm_at 100 26 = some (.iconst 0) := by decide +kernel
theorem at100_27 : jm_at 100 27 = some (.ireturn) := by decide +kernel
theorem u100_26 {S : Option (Nat × (Nat → Int32))} {H : jm_H} {Q : Option Value → jm_H → Prop} {r0 : Nat} : jm_w S 6 100 26 [.ref r0] [] H Q = Q (some (.int (0 : Int32))) H := (jsci at100_26 rfl rfl).trans (jsret_z at100_27 rfl (by decide))
theorem at100_28 : jm_at 100 28 = some (.aload_n 0) := by decide +kernel
theorem at100_29 : jm_at 100 29 = some (.invokevirtual 149) := by decide +kernel
theorem rv100i_149 : jm_rv 100 (.invokevirtual 149) = (2, 94, 0, 0) := by decide +kernel
theorem u100_28 {S : Option (Nat × (Nat → Int32))} {H : jm_H} {Q : Option Value → jm_H → Prop} {r0 : Nat} (h0 : jm_tg H r0 = 12) : jm_w S 6 100 28 [.ref r0] [] H Q = jm_c S 94 [.ref r0] H (fun v G => jm_w S 6 100 32 [.ref r0] (v.toList ++ []) G Q) := (js1 at100_28 rfl rfl rfl).trans (jscall (H := H) (as := [.ref r0]) (q := []) at100_29 rfl rv100i_149 (jscutV rfl rfl rfl (Nat.le_of_ble_eq_true rfl) rfl h0) rfl (Nat.le_of_ble_eq_true rfl) rfl rfl)
theorem at100_32 : jm_at 100 32 = some (.aload_n 0) := by decide +kernel
theorem at100_33 : jm_at 100 33 = some (.getfield 53) := by decide +kernel
theorem at100_36 : jm_at 100 36 = some (.getfield 127) := by decide +kernel
theorem at100_39 : jm_at 100 39 = some (.invokevirtual 131) := by decide +kernel
theorem rv100i_131 : jm_rv 100 (.invokevirtual 131) = (2, 42, 0, 0) := by decide +kernel
theorem u100_32 {S : Option (Nat × (Nat → Int32))} {H : jm_H} {Q : Option Value → jm_H → Prop} {r0 : Nat} (h0 : jm_tg H r0 = 12) (h1 : ¬ jm_R H r0 7 = 0) (h2 : jm_tg H (jm_R H r0 7) = 7) (h3 : ¬ jm_R H (jm_R H r0 7) 0 = 0) (h4 : jm_tg H (jm_R H (jm_R H r0 7) 0) = 8) : jm_w S 6 100 32 [.ref r0] [] H Q = jm_c S 42 [.ref (jm_R H (jm_R H r0 7) 0)] H (fun v G => jm_w S 6 100 42 [.ref r0] (v.toList ++ []) G Q) := (js1 at100_32 rfl rfl rfl).trans ((jsgR (H := H) at100_33 rv100g_53 rfl h0 h1 rfl).trans ((jsgR (H := H) at100_36 rv100g_127 rfl h2 h3 rfl).trans (jscall (H := H) (as := [.ref (jm_R H (jm_R H r0 7) 0)]) (q := []) at100_39 rfl rv100i_131 (jscutV rfl rfl rfl (Nat.le_of_ble_eq_true rfl) rfl h4) rfl (Nat.le_of_ble_eq_true rfl) rfl rfl)))
theorem at100_42 : jm_at 100 42 = some (.iconst 1) := by decide +kernel
theorem at100_43 : jm_at 100 43 = some (.ireturn) := by decide +kernel
theorem u100_42 {S : Option (Nat × (Nat → Int32))} {H : jm_H} {Q : Option Value → jm_H → Prop} {r0 : Nat} : jm_w S 6 100 42 [.ref r0] [] H Q = Q (some (.int (1 : Int32))) H := (jsci at100_42 rfl rfl).trans (jsret_z at100_43 rfl (by decide))
theorem en100 {S : Option (Nat × (Nat → Int32))} {H : jm_H} {Q : Option Value → jm_H → Prop} {r0 : Nat} : jm_c S 100 [.ref r0] H Q = jm_w S 6 100 0 [.ref r0] [] H Q := rfl
theorem at102_0 : jm_at 102 0 = some (.aload_n 0) := by decide +kernel
theorem at102_1 : jm_at 102 1 = some (.getfield 136) := by decide +kernel
theorem rv102g_136 : jm_rv 102 (.getfield 136) = (0, 11, 15, 0) := by decide +kernel
theorem at102_4 : jm_at 102 4 = some (.ifCond .gt 5) := by decide +kernel
theorem u102_0 {S : Option (Nat × (Nat → Int32))} {H : jm_H} {Q : Option Value → jm_H → Prop} {r0 : Nat} (h0 : jm_tg H r0 = 12) : jm_w S 9 102 0 [.ref r0] [] H Q = if 0 < (jm_I H r0 15) then jm_w S 9 102 9 [.ref r0] [] H Q else jm_w S 9 102 7 [.ref r0] [] H Q := (js1 at102_0 rfl rfl rfl).trans ((jsgI (H := H) at102_1 rv102g_136 (Or.inl rfl) h0 rfl).trans (jsif (P := 0 < (jm_I H r0 15)) at102_4 rfl rfl))
theorem at102_7 : jm_at 102 7 = some (.iconst 0) := by decide +kernel
theorem at102_8 : jm_at 102 8 = some (.ireturn) := by decide +kernel
theorem u102_7 {S : Option (Nat × (Nat → Int32))} {H : jm_H} {Q : Option Value → jm_H → Prop} {r0 : Nat} : jm_w S 9 102 7 [.ref r0] [] H Q = Q (some (.int (0 : Int32))) H := (jsci at102_7 rfl rfl).trans (jsret_z at102_8 rfl (by decide))
theorem at102_9 : jm_at 102 9 = some (.aload_n 0) := by decide +kernel
theorem at102_10 : jm_at 102 10 = some (.dup) := by decide +kernel
theorem at102_11 : jm_at 102 11 = some (.getfield 136) := by decide +kernel
theorem at102_14 : jm_at 102 14 = some (.iconst 1) := by decide +kernel
theorem at102_15 : jm_at 102 15 = some (.isub) := by decide +kernel
theorem at102_16 : jm_at 102 16 = some (.putfield 136) := by decide +kernel
theorem rv102p_136 : jm_rv 102 (.putfield 136) = (0, 11, 15, 0) := by decide +kernel
theorem at102_19 : jm_at 102 19 = some (.aload_n 0) := by decide +kernel
theorem at102_20 : jm_at 102 20 = some (.aload_n 0) := by decide +kernel
theorem at102_21 : jm_at 102 21 = some (.getfield 57) := by decide +kernel
theorem rv102g_57 : jm_rv 102 (.getfield 57) = (0, 11, 8, 0) := by decide +kernel
theorem at102_24 : jm_at 102 24 = some (.aload_n 0) := by decide +kernel
theorem at102_25 : jm_at 102 25 = some (.getfield 170) := by decide +kernel
theorem rv102g_170 : jm_rv 102 (.getfield 170) = (0, 11, 14, 0) := by decide +kernel
theorem at102_28 : jm_at 102 28 = some (.aload_n 0) := by decide +kernel
theorem at102_29 : jm_at 102 29 = some (.getfield 136) := by decide +kernel
theorem at102_32 : jm_at 102 32 = some (.iadd) := by decide +kernel
theorem at102_33 : jm_at 102 33 = some (.bipush 40) := by decide +kernel
theorem at102_35 : jm_at 102 35 = some (.invokestatic 173) := by decide +kernel
theorem rv102i_173 : jm_rv 102 (.invokestatic 173) = (1, 95, 0, 0) := by decide +kernel
theorem u102_9 {S : Option (Nat × (Nat → Int32))} {H : jm_H} {Q : Option Value → jm_H → Prop} {r0 : Nat} (h0 : jm_tg H r0 = 12) (h1 : ¬ jm_R H r0 8 = 0) : jm_w S 9 102 9 [.ref r0] [] H Q = jm_c S 95 [.int ((jm_I (jm_pI H r0 15 ((jm_I H r0 15) - (1 : Int32))) r0 14) + (jm_I (jm_pI H r0 15 ((jm_I H r0 15) - (1 : Int32))) r0 15)), .int (40 : Int32)] (jm_pI H r0 15 ((jm_I H r0 15) - (1 : Int32))) (fun v G => jm_w S 9 102 38 [.ref r0] (v.toList ++ [.ref (jm_R H r0 8), .ref r0]) G Q) := (js1 at102_9 rfl rfl rfl).trans ((js0 at102_10 rfl rfl rfl).trans ((jsgI (H := H) at102_11 rv102g_136 (Or.inl rfl) h0 rfl).trans ((jsci at102_14 rfl rfl).trans ((js0 at102_15 rfl rfl rfl).trans ((jspI (H := H) at102_16 rv102p_136 rfl h0 rfl).trans ((js1 at102_19 rfl rfl rfl).trans ((js1 at102_20 rfl rfl rfl).trans ((jsgR (H := (jm_pI H r0 15 ((jm_I H r0 15) - (1 : Int32)))) at102_21 rv102g_57 rfl h0 h1 rfl).trans ((js1 at102_24 rfl rfl rfl).trans ((jsgI (H := (jm_pI H r0 15 ((jm_I H r0 15) - (1 : Int32)))) at102_25 rv102g_170 (Or.inl rfl) h0 rfl).trans ((js1 at102_28 rfl rfl rfl).trans ((jsgI (H := (jm_pI H r0 15 ((jm_I H r0 15) - (1 : Int32)))) at102_29 rv102g_136 (Or.inl rfl) h0 rfl).trans ((js0 at102_32 rfl rfl rfl).trans ((jscb at102_33 rfl rfl).trans (jscall (H := (jm_pI H r0 15 ((jm_I H r0 15) - (1 : Int32)))) (as := [.int ((jm_I (jm_pI H r0 15 ((jm_I H r0 15) - (1 : Int32))) r0 14) + (jm_I (jm_pI H r0 15 ((jm_I H r0 15) - (1 : Int32))) r0 15)), .int (40 : Int32)]) (q := [.ref (jm_R H r0 8), .ref r0]) at102_35 rfl rv102i_173 (jscut rfl rfl rfl (Nat.le_of_ble_eq_true rfl)) rfl (Nat.le_of_ble_eq_true rfl) rfl rfl)))))))))))))))
theorem at102_38 : jm_at 102 38 = some (.aaload) := by decide +kernel
theorem at102_39 : jm_at 102 39 = some (.invokevirtual 179) := by decide +kernel
theorem rv102i_179 : jm_rv 102 (.invokevirtual 179) = (2, 103, 0, 0) := by decide +kernel
theorem u102_38 {S : Option (Nat × (Nat → Int32))} {H : jm_H} {Q : Option Value → jm_H → Prop} {r0 o0 o1 : Nat} {p2 : Int32} (h0 : ¬ (p2 < 0 ∨ jm_ln H o1 ≤ Int32.toNatClampNeg p2)) (h1 : jm_tg H o1 = 104 ∨ jm_tg H o1 = 105) (h2 : ¬ jm_R H o1 (Int32.toNatClampNeg p2) = 0) (h3 : jm_tg H o0 = 12) : jm_w S 9 102 38 [.ref r0] [.int p2, .ref o1, .ref o0] H Q = jm_c S 103 [.ref o0, .ref (jm_R H o1 (Int32.toNatClampNeg p2))] H (fun v G => jm_w S 9 102 42 [.ref r0] (v.toList ++ []) G Q) := (jsaal (H := H) at102_38 h1 h0 h2 rfl).trans (jscall (H := H) (as := [.ref o0, .ref (jm_R H o1 (Int32.toNatClampNeg p2))]) (q := []) at102_39 rfl rv102i_179 (jscutV rfl rfl rfl (Nat.le_of_ble_eq_true rfl) rfl h3) rfl (Nat.le_of_ble_eq_true rfl) rfl rfl)
theorem at102_42 : jm_at 102 42 = some (.iconst 1) := by decide +kernel
theorem at102_43 : jm_at 102 43 = some (.ireturn) := by decide +kernel
theorem u102_42 {S : Option (Nat × (Nat → Int32))} {H : jm_H} {Q : Option Value → jm_H → Prop} {r0 : Nat} : jm_w S 9 102 42 [.ref r0] [] H Q = Q (some (.int (1 : Int32))) H := (jsci at102_42 rfl rfl).trans (jsret_z at102_43 rfl (by decide))
theorem en102 {S : Option (Nat × (Nat → Int32))} {H : jm_H} {Q : Option Value → jm_H → Prop} {r0 : Nat} : jm_c S 102 [.ref r0] H Q = jm_w S 9 102 0 [.ref r0] [] H Q := rfl
theorem at103_0 : jm_at 103 0 = some (.aload_n 1) := by decide +kernel
theorem at103_1 : jm_at 103 1 = some (.getfield 114) := by decide +kernel
theorem rv103g_114 : jm_rv 103 (.getfield 114) = (0, 6, 1, 0) := by decide +kernel
theorem at103_4 : jm_at 103 4 = some (.aload_n 0) := by decide +kernel
theorem at103_5 : jm_at 103 5 = some (.getfield 53) := by decide +kernel
theorem rv103g_53 : jm_rv 103 (.getfield 53) = (0, 11, 7, 0) := by decide +kernel
theorem at103_8 : jm_at 103 8 = some (.getfield 114) := by decide +kernel
theorem at103_11 : jm_at 103 11 = some (.if_icmp .ne 17) := by decide +kernel
theorem u103_0 {S : Option (Nat × (Nat → Int32))} {H : jm_H} {Q : Option Value → jm_H → Prop} {r0 r1 : Nat} (h0 : jm_tg H r1 = 7) (h1 : jm_tg H r0 = 12) (h2 : ¬ jm_R H r0 7 = 0) (h3 : jm_tg H (jm_R H r0 7) = 7) : jm_w S 8 103 0 [.ref r0, .ref r1, .null] [] H Q = if ¬ (jm_I H r1 1) = (jm_I H (jm_R H r0 7) 1) then jm_w S 8 103 28 [.ref r0, .ref r1, .null] [] H Q else jm_w S 8 103 14 [.ref r0, .ref r1, .null] [] H Q := (js1 at103_0 rfl rfl rfl).trans ((jsgI (H := H) at103_1 rv103g_114 (Or.inl rfl) h0 rfl).trans ((js1 at103_4 rfl rfl rfl).trans ((jsgR (H := H) at103_5 rv103g_53 rfl h1 h2 rfl).trans ((jsgI (H := H) at103_8 rv103g_114 (Or.inl rfl) h3 rfl).trans (jsif (P := ¬ (jm_I H r1 1) = (jm_I H (jm_R H r0 7) 1)) at103_11 rfl rfl)))))
theorem at103_14 : jm_at 103 14 = some (.aload_n 1) := by decide +kernel
theorem at103_15 : jm_at 103 15 = some (.getfield 117) := by decide +kernel
theorem rv103g_117 : jm_rv 103 (.getfield 117) = (0, 6, 2, 0) := by decide +kernel
theorem at103_18 : jm_at 103 18 = some (.aload_n 0) := by decide +kernel
theorem at103_19 : jm_at 103 19 = some (.getfield 53) := by decide +kernel
theorem at103_22 : jm_at 103 22 = some (.getfield 117) := by decide +kernel
theorem at103_25 : jm_at 103 25 = some (.if_icmp .eq 7) := by decide +kernel
theorem u103_14 {S : Option (Nat × (Nat → Int32))} {H : jm_H} {Q : Option Value → jm_H → Prop} {r0 r1 : Nat} (h0 : jm_tg H r1 = 7) (h1 : jm_tg H r0 = 12) (h2 : ¬ jm_R H r0 7 = 0) (h3 : jm_tg H (jm_R H r0 7) = 7) : jm_w S 8 103 14 [.ref r0, .ref r1, .null] [] H Q = if (jm_I H r1 2) = (jm_I H (jm_R H r0 7) 2) then jm_w S 8 103 32 [.ref r0, .ref r1, .null] [] H Q else jm_w S 8 103 28 [.ref r0, .ref r1, .null] [] H Q := (js1 at103_14 rfl rfl rfl).trans ((jsgI (H := H) at103_15 rv103g_117 (Or.inl rfl) h0 rfl).trans ((js1 at103_18 rfl rfl rfl).trans ((jsgR (H := H) at103_19 rv103g_53 rfl h1 h2 rfl).trans ((jsgI (H := H) at103_22 rv103g_117 (Or.inl rfl) h3 rfl).trans (jsif (P := (jm_I H r1 2) = (jm_I H (jm_R H r0 7) 2)) at103_25 rfl rfl)))))
theorem at103_28 : jm_at 103 28 = some (.iconst 1) := by decide +kernel
theorem at103_29 : jm_at 103 29 = some (.goto 4) := by decide +kernel
theorem u103_28 {S : Option (Nat × (Nat → Int32))} {H : jm_H} {Q : Option Value → jm_H → Prop} {r0 r1 : Nat} : jm_w S 8 103 28 [.ref r0, .ref r1, .null] [] H Q = jm_w S 8 103 33 [.ref r0, .ref r1, .null] [.int (1 : Int32)] H Q := (jsci at103_28 rfl rfl).trans (js2 at103_29 rfl rfl)
theorem at103_32 : jm_at 103 32 = some (.iconst 0) := by decide +kernel
theorem u103_32 {S : Option (Nat × (Nat → Int32))} {H : jm_H} {Q : Option Value → jm_H → Prop} {r0 r1 : Nat} : jm_w S 8 103 32 [.ref r0, .ref r1, .null] [] H Q = jm_w S 8 103 33 [.ref r0, .ref r1, .null] [.int (0 : Int32)] H Q := jsci at103_32 rfl rfl
theorem at103_33 : jm_at 103 33 = some (.istore_n 2) := by decide +kernel
theorem at103_34 : jm_at 103 34 = some (.aload_n 0) := by decide +kernel
theorem at103_35 : jm_at 103 35 = some (.getfield 53) := by decide +kernel
theorem at103_38 : jm_at 103 38 = some (.aload_n 1) := by decide +kernel
theorem at103_39 : jm_at 103 39 = some (.invokevirtual 183) := by decide +kernel
theorem rv103i_183 : jm_rv 103 (.invokevirtual 183) = (2, 96, 0, 0) := by decide +kernel
theorem u103_33 {S : Option (Nat × (Nat → Int32))} {H : jm_H} {Q : Option Value → jm_H → Prop} {r0 r1 : Nat} {p0 : Int32} (h0 : jm_tg H r0 = 12) (h1 : ¬ jm_R H r0 7 = 0) (h2 : jm_tg H (jm_R H r0 7) = 7) : jm_w S 8 103 33 [.ref r0, .ref r1, .null] [.int p0] H Q = jm_c S 96 [.ref (jm_R H r0 7), .ref r1] H (fun v G => jm_w S 8 103 42 [.ref r0, .ref r1, .int p0] (v.toList ++ []) G Q) := (js1 at103_33 rfl rfl rfl).trans ((js1 at103_34 rfl rfl rfl).trans ((jsgR (H := H) at103_35 rv103g_53 rfl h0 h1 rfl).trans ((js1 at103_38 rfl rfl rfl).trans (jscall (H := H) (as := [.ref (jm_R H r0 7), .ref r1]) (q := []) at103_39 rfl rv103i_183 (jscutV rfl rfl rfl (Nat.le_of_ble_eq_true rfl) rfl h2) rfl (Nat.le_of_ble_eq_true rfl) rfl rfl))))
theorem at103_42 : jm_at 103 42 = some (.iload_n 2) := by decide +kernel
theorem at103_43 : jm_at 103 43 = some (.ifCond .eq 32) := by decide +kernel
theorem u103_42 {S : Option (Nat × (Nat → Int32))} {H : jm_H} {Q : Option Value → jm_H → Prop} {r0 r1 : Nat} {x2 : Int32} : jm_w S 8 103 42 [.ref r0, .ref r1, .int x2] [] H Q = if x2 = 0 then jm_w S 8 103 75 [.ref r0, .ref r1, .int x2] [] H Q else jm_w S 8 103 46 [.ref r0, .ref r1, .int x2] [] H Q := (js1 at103_42 rfl rfl rfl).trans (jsif (P := x2 = 0) at103_43 rfl rfl)
theorem at103_46 : jm_at 103 46 = some (.aload_n 0) := by decide +kernel
theorem at103_47 : jm_at 103 47 = some (.getfield 24) := by decide +kernel
theorem rv103g_24 : jm_rv 103 (.getfield 24) = (0, 11, 2, 0) := by decide +kernel
theorem at103_50 : jm_at 103 50 = some (.aload_n 0) := by decide +kernel
theorem at103_51 : jm_at 103 51 = some (.getfield 87) := by decide +kernel
theorem rv103g_87 : jm_rv 103 (.getfield 87) = (0, 11, 13, 0) := by decide +kernel
theorem at103_54 : jm_at 103 54 = some (.aload_n 0) := by decide +kernel
theorem at103_55 : jm_at 103 55 = some (.getfield 53) := by decide +kernel
theorem at103_58 : jm_at 103 58 = some (.getfield 114) := by decide +kernel
theorem at103_61 : jm_at 103 61 = some (.aload_n 0) := by decide +kernel
theorem at103_62 : jm_at 103 62 = some (.getfield 53) := by decide +kernel
theorem at103_65 : jm_at 103 65 = some (.getfield 117) := by decide +kernel
theorem at103_68 : jm_at 103 68 = some (.aload_n 0) := by decide +kernel
theorem at103_69 : jm_at 103 69 = some (.getfield 68) := by decide +kernel
theorem rv103g_68 : jm_rv 103 (.getfield 68) = (0, 11, 10, 0) := by decide +kernel
theorem at103_72 : jm_at 103 72 = some (.invokevirtual 120) := by decide +kernel
theorem rv103i_120 : jm_rv 103 (.invokevirtual 120) = (2, 43, 0, 0) := by decide +kernel
theorem u103_46 {S : Option (Nat × (Nat → Int32))} {H : jm_H} {Q : Option Value → jm_H → Prop} {r0 r1 : Nat} {x2 : Int32} (h0 : jm_tg H r0 = 12) (h1 : ¬ jm_R H r0 2 = 0) (h2 : ¬ jm_R H r0 13 = 0) (h3 : ¬ jm_R H r0 7 = 0) (h4 : jm_tg H (jm_R H r0 7) = 7) (h5 : ¬ jm_R H r0 10 = 0) (h6 : jm_tg H (jm_R H r0 2) = 11) : jm_w S 8 103 46 [.ref r0, .ref r1, .int x2] [] H Q = jm_c S 43 [.ref (jm_R H r0 2), .ref (jm_R H r0 13), .int (jm_I H (jm_R H r0 7) 1), .int (jm_I H (jm_R H r0 7) 2), .ref (jm_R H r0 10)] H (fun v G => jm_w S 8 103 75 [.ref r0, .ref r1, .int x2] (v.toList ++ []) G Q) := (js1 at103_46 rfl rfl rfl).trans ((jsgR (H := H) at103_47 rv103g_24 rfl h0 h1 rfl).trans ((js1 at103_50 rfl rfl rfl).trans ((jsgR (H := H) at103_51 rv103g_87 rfl h0 h2 rfl).trans ((js1 at103_54 rfl rfl rfl).trans ((jsgR (H := H) at103_55 rv103g_53 rfl h0 h3 rfl).trans ((jsgI (H := H) at103_58 rv103g_114 (Or.inl rfl) h4 rfl).trans ((js1 at103_61 rfl rfl rfl).trans ((jsgR (H := H) at103_62 rv103g_53 rfl h0 h3 rfl).trans ((jsgI (H := H) at103_65 rv103g_117 (Or.inl rfl) h4 rfl).trans ((js1 at103_68 rfl rfl rfl).trans ((jsgR (H := H) at103_69 rv103g_68 rfl h0 h5 rfl).trans (jscall (H := H) (as := [.ref (jm_R H r0 2), .ref (jm_R H r0 13), .int (jm_I H (jm_R H r0 7) 1), .int (jm_I H (jm_R H r0 7) 2), .ref (jm_R H r0 10)]) (q := []) at103_72 rfl rv103i_120 (jscutV rfl rfl rfl (Nat.le_of_ble_eq_true rfl) rfl h6) rfl (Nat.le_of_ble_eq_true rfl) rfl rfl))))))))))))
theorem at103_75 : jm_at 103 75 = some (.return_) := by decide +kernel
theorem u103_75 {S : Option (Nat × (Nat → Int32))} {H : jm_H} {Q : Option Value → jm_H → Prop} {r0 r1 : Nat} {x2 : Int32} : jm_w S 8 103 75 [.ref r0, .ref r1, .int x2] [] H Q = Q none H := jsret_v at103_75 rfl
theorem en103 {S : Option (Nat × (Nat → Int32))} {H : jm_H} {Q : Option Value → jm_H → Prop} {r0 r1 : Nat} : jm_c S 103 [.ref r0, .ref r1] H Q = jm_w S 8 103 0 [.ref r0, .ref r1, .null] [] H Q := rfl
theorem at104_0 : jm_at 104 0 = some (.iload_n 1) := by decide +kernel
theorem at104_1 : jm_at 104 1 = some (.ifCond .lt 12) := by decide +kernel
theorem u104_0 {S : Option (Nat × (Nat → Int32))} {H : jm_H} {Q : Option Value → jm_H → Prop} {r0 : Nat} {x1 : Int32} : jm_w S 3 104 0 [.ref r0, .int x1] [] H Q = if x1 < 0 then jm_w S 3 104 13 [.ref r0, .int x1] [] H Q else jm_w S 3 104 4 [.ref r0, .int x1] [] H Q := (js1 at104_0 rfl rfl rfl).trans (jsif (P := x1 < 0) at104_1 rfl rfl)
theorem at104_4 : jm_at 104 4 = some (.iload_n 1) := by decide +kernel
theorem at104_5 : jm_at 104 5 = some (.aload_n 0) := by decide +kernel
theorem at104_6 : jm_at 104 6 = some (.getfield 63) := by decide +kernel
theorem rv104g_63 : jm_rv 104 (.getfield 63) = (0, 11, 9, 0) := by decide +kernel
theorem at104_9 : jm_at 104 9 = some (.arraylength) := by decide +kernel
theorem at104_10 : jm_at 104 10 = some (.if_icmp .lt 5) := by decide +kernel
theorem u104_4 {S : Option (Nat × (Nat → Int32))} {H : jm_H} {Q : Option Value → jm_H → Prop} {r0 : Nat} {x1 : Int32} (h0 : jm_tg H r0 = 12) (h1 : ¬ jm_R H r0 9 = 0) (h2 : ¬ (jm_R H r0 9) = 1) (h3 : 100 ≤ jm_tg H (jm_R H r0 9)) : jm_w S 3 104 4 [.ref r0, .int x1] [] H Q = if x1 < (Int32.ofNat (jm_ln H (jm_R H r0 9))) then jm_w S 3 104 15 [.ref r0, .int x1] [] H Q else jm_w S 3 104 13 [.ref r0, .int x1] [] H Q := (js1 at104_4 rfl rfl rfl).trans ((js1 at104_5 rfl rfl rfl).trans ((jsgR (H := H) at104_6 rv104g_63 rfl h0 h1 rfl).trans ((jsaln (H := H) at104_9 h2 h3 rfl).trans (jsif (P := x1 < (Int32.ofNat (jm_ln H (jm_R H r0 9)))) at104_10 rfl rfl))))
theorem at104_13 : jm_at 104 13 = some (.iconst 0) := by decide +kernel
theorem at104_14 : jm_at 104 14 = some (.ireturn) := by decide +kernel
theorem u104_13 {S : Option (Nat × (Nat → Int32))} {H : jm_H} {Q : Option Value → jm_H → Prop} {r0 : Nat} {x1 : Int32} : jm_w S 3 104 13 [.ref r0, .int x1] [] H Q = Q (some (.int (0 : Int32))) H := (jsci at104_13 rfl rfl).trans (jsret_z at104_14 rfl (by decide))
theorem at104_15 : jm_at 104 15 = some (.aload_n 0) := by decide +kernel
theorem at104_16 : jm_at 104 16 = some (.getfield 63) := by decide +kernel
theorem at104_19 : jm_at 104 19 = some (.iload_n 1) := by decide +kernel
theorem at104_20 : jm_at 104 20 = some (.aaload) := by decide +kernel
theorem at104_21 : jm_at 104 21 = some (.getfield 186) := by decide +kernel
theorem rv104g_186 : jm_rv 104 (.getfield 186) = (0, 5, 0, 0) := by decide +kernel
theorem at104_24 : jm_at 104 24 = some (.aload_n 0) := by decide +kernel
theorem at104_25 : jm_at 104 25 = some (.getfield 53) := by decide +kernel
theorem rv104g_53 : jm_rv 104 (.getfield 53) = (0, 11, 7, 0) := by decide +kernel
theorem at104_28 : jm_at 104 28 = some (.invokevirtual 183) := by decide +kernel
theorem rv104i_183 : jm_rv 104 (.invokevirtual 183) = (2, 96, 0, 0) := by decide +kernel
theorem u104_15 {S : Option (Nat × (Nat → Int32))} {H : jm_H} {Q : Option Value → jm_H → Prop} {r0 : Nat} {x1 : Int32} (h0 : jm_tg H r0 = 12) (h1 : ¬ jm_R H r0 9 = 0) (h2 : ¬ (x1 < 0 ∨ jm_ln H (jm_R H r0 9) ≤ Int32.toNatClampNeg x1)) (h3 : jm_tg H (jm_R H r0 9) = 104 ∨ jm_tg H (jm_R H r0 9) = 105) (h4 : ¬ jm_R H (jm_R H r0 9) (Int32.toNatClampNeg x1) = 0) (h5 : jm_tg H (jm_R H (jm_R H r0 9) (Int32.toNatClampNeg x1)) = 6) (h6 : ¬ jm_R H (jm_R H (jm_R H r0 9) (Int32.toNatClampNeg x1)) 0 = 0) (h7 : ¬ jm_R H r0 7 = 0) (h8 : jm_tg H (jm_R H (jm_R H (jm_R H r0 9) (Int32.toNatClampNeg x1)) 0) = 7) : jm_w S 3 104 15 [.ref r0, .int x1] [] H Q = jm_c S 96 [.ref (jm_R H (jm_R H (jm_R H r0 9) (Int32.toNatClampNeg x1)) 0), .ref (jm_R H r0 7)] H (fun v G => jm_w S 3 104 31 [.ref r0, .int x1] (v.toList ++ []) G Q) := (js1 at104_15 rfl rfl rfl).trans ((jsgR (H := H) at104_16 rv104g_63 rfl h0 h1 rfl).trans ((js1 at104_19 rfl rfl rfl).trans ((jsaal (H := H) at104_20 h3 h2 h4 rfl).trans ((jsgR (H := H) at104_21 rv104g_186 rfl h5 h6 rfl).trans ((js1 at104_24 rfl rfl rfl).trans ((jsgR (H := H) at104_25 rv104g_53 rfl h0 h7 rfl).trans (jscall (H := H) (as := [.ref (jm_R H (jm_R H (jm_R H r0 9) (Int32.toNatClampNeg x1)) 0), .ref (jm_R H r0 7)]) (q := []) at104_28 rfl rv104i_183 (jscutV rfl rfl rfl (Nat.le_of_ble_eq_true rfl) rfl h8) rfl (Nat.le_of_ble_eq_true rfl) rfl rfl)))))))
theorem at104_31 : jm_at 104 31 = some (.aload_n 0) := by decide +kernel
theorem at104_32 : jm_at 104 32 = some (.getfield 63) := by decide +kernel
theorem at104_35 : jm_at 104 35 = some (.iload_n 1) := by decide +kernel
theorem at104_36 : jm_at 104 36 = some (.aaload) := by decide +kernel
theorem at104_37 : jm_at 104 37 = some (.getfield 189) := by decide +kernel
theorem rv104g_189 : jm_rv 104 (.getfield 189) = (0, 5, 1, 0) := by decide +kernel
theorem at104_40 : jm_at 104 40 = some (.aload_n 0) := by decide +kernel
theorem at104_41 : jm_at 104 41 = some (.getfield 20) := by decide +kernel
theorem rv104g_20 : jm_rv 104 (.getfield 20) = (0, 11, 0, 0) := by decide +kernel
theorem at104_44 : jm_at 104 44 = some (.invokevirtual 190) := by decide +kernel
theorem rv104i_190 : jm_rv 104 (.invokevirtual 190) = (2, 105, 0, 0) := by decide +kernel
theorem u104_31 {S : Option (Nat × (Nat → Int32))} {H : jm_H} {Q : Option Value → jm_H → Prop} {r0 : Nat} {x1 : Int32} (h0 : jm_tg H r0 = 12) (h1 : ¬ jm_R H r0 9 = 0) (h2 : ¬ (x1 < 0 ∨ jm_ln H (jm_R H r0 9) ≤ Int32.toNatClampNeg x1)) (h3 : jm_tg H (jm_R H r0 9) = 104 ∨ jm_tg H (jm_R H r0 9) = 105) (h4 : ¬ jm_R H (jm_R H r0 9) (Int32.toNatClampNeg x1) = 0) (h5 : jm_tg H (jm_R H (jm_R H r0 9) (Int32.toNatClampNeg x1)) = 6) (h6 : ¬ jm_R H (jm_R H (jm_R H r0 9) (Int32.toNatClampNeg x1)) 1 = 0) (h7 : ¬ jm_R H r0 0 = 0) (h8 : jm_tg H (jm_R H (jm_R H (jm_R H r0 9) (Int32.toNatClampNeg x1)) 1) = 9) : jm_w S 3 104 31 [.ref r0, .int x1] [] H Q = jm_c S 105 [.ref (jm_R H (jm_R H (jm_R H r0 9) (Int32.toNatClampNeg x1)) 1), .ref (jm_R H r0 0)] H (fun v G => jm_w S 3 104 47 [.ref r0, .int x1] (v.toList ++ []) G Q) := (js1 at104_31 rfl rfl rfl).trans ((jsgR (H := H) at104_32 rv104g_63 rfl h0 h1 rfl).trans ((js1 at104_35 rfl rfl rfl).trans ((jsaal (H := H) at104_36 h3 h2 h4 rfl).trans ((jsgR (H := H) at104_37 rv104g_189 rfl h5 h6 rfl).trans ((js1 at104_40 rfl rfl rfl).trans ((jsgR (H := H) at104_41 rv104g_20 rfl h0 h7 rfl).trans (jscall (H := H) (as := [.ref (jm_R H (jm_R H (jm_R H r0 9) (Int32.toNatClampNeg x1)) 1), .ref (jm_R H r0 0)]) (q := []) at104_44 rfl rv104i_190 (jscutV rfl rfl rfl (Nat.le_of_ble_eq_true rfl) rfl h8) rfl (Nat.le_of_ble_eq_true rfl) rfl rfl)))))))
theorem at104_47 : jm_at 104 47 = some (.aload_n 0) := by decide +kernel
theorem at104_48 : jm_at 104 48 = some (.getfield 63) := by decide +kernel
theorem at104_51 : jm_at 104 51 = some (.iload_n 1) := by decide +kernel
theorem at104_52 : jm_at 104 52 = some (.aaload) := by decide +kernel
theorem at104_53 : jm_at 104 53 = some (.iconst 1) := by decide +kernel
theorem at104_54 : jm_at 104 54 = some (.putfield 139) := by decide +kernel
theorem rv104p_139 : jm_rv 104 (.putfield 139) = (0, 5, 2, 0) := by decide +kernel
theorem at104_57 : jm_at 104 57 = some (.iconst 1) := by decide +kernel
theorem at104_58 : jm_at 104 58 = some (.ireturn) := by decide +kernel
theorem u104_47 {S : Option (Nat × (Nat → Int32))} {H : jm_H} {Q : Option Value → jm_H → Prop} {r0 : Nat} {x1 : Int32} (h0 : jm_tg H r0 = 12) (h1 : ¬ jm_R H r0 9 = 0) (h2 : ¬ (x1 < 0 ∨ jm_ln H (jm_R H r0 9) ≤ Int32.toNatClampNeg x1)) (h3 : jm_tg H (jm_R H r0 9) = 104 ∨ jm_tg H (jm_R H r0 9) = 105) (h4 : ¬ jm_R H (jm_R H r0 9) (Int32.toNatClampNeg x1) = 0) (h5 : jm_tg H (jm_R H (jm_R H r0 9) (Int32.toNatClampNeg x1)) = 6) : jm_w S 3 104 47 [.ref r0, .int x1] [] H Q = Q (some (.int (1 : Int32))) (jm_pI H (jm_R H (jm_R H r0 9) (Int32.toNatClampNeg x1)) 2 (1 : Int32)) := (js1 at104_47 rfl rfl rfl).trans ((jsgR (H := H) at104_48 rv104g_63 rfl h0 h1 rfl).trans ((js1 at104_51 rfl rfl rfl).trans ((jsaal (H := H) at104_52 h3 h2 h4 rfl).trans ((jsci at104_53 rfl rfl).trans ((jspZ (H := H) at104_54 rv104p_139 rfl h5 (by decide) rfl).trans ((jsci at104_57 rfl rfl).trans (jsret_z at104_58 rfl (by decide))))))))
theorem en104 {S : Option (Nat × (Nat → Int32))} {H : jm_H} {Q : Option Value → jm_H → Prop} {r0 : Nat} {x1 : Int32} : jm_c S 104 [.ref r0, .int x1] H Q = jm_w S 3 104 0 [.ref r0, .int x1] [] H Q := rfl
theorem at106_0 : jm_at 106 0 = some (.iload_n 1) := by decide +kernel
theorem at106_1 : jm_at 106 1 = some (.ifCond .lt 24) := by decide +kernel
theorem u106_0 {S : Option (Nat × (Nat → Int32))} {H : jm_H} {Q : Option Value → jm_H → Prop} {r0 : Nat} {x1 : Int32} : jm_w S 9 106 0 [.ref r0, .int x1] [] H Q = if x1 < 0 then jm_w S 9 106 25 [.ref r0, .int x1] [] H Q else jm_w S 9 106 4 [.ref r0, .int x1] [] H Q := (js1 at106_0 rfl rfl rfl).trans (jsif (P := x1 < 0) at106_1 rfl rfl)
theorem at106_4 : jm_at 106 4 = some (.iload_n 1) := by decide +kernel
theorem at106_5 : jm_at 106 5 = some (.aload_n 0) := by decide +kernel
theorem at106_6 : jm_at 106 6 = some (.getfield 63) := by decide +kernel
theorem rv106g_63 : jm_rv 106 (.getfield 63) = (0, 11, 9, 0) := by decide +kernel
theorem at106_9 : jm_at 106 9 = some (.arraylength) := by decide +kernel
theorem at106_10 : jm_at 106 10 = some (.if_icmp .ge 15) := by decide +kernel
theorem u106_4 {S : Option (Nat × (Nat → Int32))} {H : jm_H} {Q : Option Value → jm_H → Prop} {r0 : Nat} {x1 : Int32} (h0 : jm_tg H r0 = 12) (h1 : ¬ jm_R H r0 9 = 0) (h2 : ¬ (jm_R H r0 9) = 1) (h3 : 100 ≤ jm_tg H (jm_R H r0 9)) : jm_w S 9 106 4 [.ref r0, .int x1] [] H Q = if (Int32.ofNat (jm_ln H (jm_R H r0 9))) ≤ x1 then jm_w S 9 106 25 [.ref r0, .int x1] [] H Q else jm_w S 9 106 13 [.ref r0, .int x1] [] H Q := (js1 at106_4 rfl rfl rfl).trans ((js1 at106_5 rfl rfl rfl).trans ((jsgR (H := H) at106_6 rv106g_63 rfl h0 h1 rfl).trans ((jsaln (H := H) at106_9 h2 h3 rfl).trans (jsif (P := (Int32.ofNat (jm_ln H (jm_R H r0 9))) ≤ x1) at106_10 rfl rfl))))
theorem at106_13 : jm_at 106 13 = some (.aload_n 0) := by decide +kernel
theorem at106_14 : jm_at 106 14 = some (.getfield 63) := by decide +kernel
theorem at106_17 : jm_at 106 17 = some (.iload_n 1) := by decide +kernel
theorem at106_18 : jm_at 106 18 = some (.aaload) := by decide +kernel
theorem at106_19 : jm_at 106 19 = some (.getfield 139) := by decide +kernel
theorem rv106g_139 : jm_rv 106 (.getfield 139) = (0, 5, 2, 0) := by decide +kernel
theorem at106_22 : jm_at 106 22 = some (.ifCond .ne 5) := by decide +kernel
theorem u106_13 {S : Option (Nat × (Nat → Int32))} {H : jm_H} {Q : Option Value → jm_H → Prop} {r0 : Nat} {x1 : Int32} (h0 : jm_tg H r0 = 12) (h1 : ¬ jm_R H r0 9 = 0) (h2 : ¬ (x1 < 0 ∨ jm_ln H (jm_R H r0 9) ≤ Int32.toNatClampNeg x1)) (h3 : jm_tg H (jm_R H r0 9) = 104 ∨ jm_tg H (jm_R H r0 9) = 105) (h4 : ¬ jm_R H (jm_R H r0 9) (Int32.toNatClampNeg x1) = 0) (h5 : jm_tg H (jm_R H (jm_R H r0 9) (Int32.toNatClampNeg x1)) = 6) : jm_w S 9 106 13 [.ref r0, .int x1] [] H Q = if ¬ (jm_I H (jm_R H (jm_R H r0 9) (Int32.toNatClampNeg x1)) 2) = 0 then jm_w S 9 106 27 [.ref r0, .int x1] [] H Q else jm_w S 9 106 25 [.ref r0, .int x1] [] H Q := (js1 at106_13 rfl rfl rfl).trans ((jsgR (H := H) at106_14 rv106g_63 rfl h0 h1 rfl).trans ((js1 at106_17 rfl rfl rfl).trans ((jsaal (H := H) at106_18 h3 h2 h4 rfl).trans ((jsgI (H := H) at106_19 rv106g_139 (Or.inr rfl) h5 rfl).trans (jsif (P := ¬ (jm_I H (jm_R H (jm_R H r0 9) (Int32.toNatClampNeg x1)) 2) = 0) at106_22 rfl rfl)))))
theorem at106_25 : jm_at 106 25 = some (.iconst 0) := by decide +kernel
theorem at106_26 : jm_at 106 26 = some (.ireturn) := by decide +kernel
theorem u106_25 {S : Option (Nat × (Nat → Int32))} {H : jm_H} {Q : Option Value → jm_H → Prop} {r0 : Nat} {x1 : Int32} : jm_w S 9 106 25 [.ref r0, .int x1] [] H Q = Q (some (.int (0 : Int32))) H := (jsci at106_25 rfl rfl).trans (jsret_z at106_26 rfl (by decide))
theorem at106_27 : jm_at 106 27 = some (.aload_n 0) := by decide +kernel
theorem at106_28 : jm_at 106 28 = some (.getfield 20) := by decide +kernel
theorem rv106g_20 : jm_rv 106 (.getfield 20) = (0, 11, 0, 0) := by decide +kernel
theorem at106_31 : jm_at 106 31 = some (.aload_n 0) := by decide +kernel
theorem at106_32 : jm_at 106 32 = some (.getfield 63) := by decide +kernel
theorem at106_35 : jm_at 106 35 = some (.iload_n 1) := by decide +kernel
theorem at106_36 : jm_at 106 36 = some (.aaload) := by decide +kernel
theorem at106_37 : jm_at 106 37 = some (.getfield 189) := by decide +kernel
theorem rv106g_189 : jm_rv 106 (.getfield 189) = (0, 5, 1, 0) := by decide +kernel
theorem at106_40 : jm_at 106 40 = some (.invokevirtual 190) := by decide +kernel
theorem rv106i_190 : jm_rv 106 (.invokevirtual 190) = (2, 105, 0, 0) := by decide +kernel
theorem u106_27 {S : Option (Nat × (Nat → Int32))} {H : jm_H} {Q : Option Value → jm_H → Prop} {r0 : Nat} {x1 : Int32} (h0 : jm_tg H r0 = 12) (h1 : ¬ jm_R H r0 0 = 0) (h2 : ¬ jm_R H r0 9 = 0) (h3 : ¬ (x1 < 0 ∨ jm_ln H (jm_R H r0 9) ≤ Int32.toNatClampNeg x1)) (h4 : jm_tg H (jm_R H r0 9) = 104 ∨ jm_tg H (jm_R H r0 9) = 105) (h5 : ¬ jm_R H (jm_R H r0 9) (Int32.toNatClampNeg x1) = 0) (h6 : jm_tg H (jm_R H (jm_R H r0 9) (Int32.toNatClampNeg x1)) = 6) (h7 : ¬ jm_R H (jm_R H (jm_R H r0 9) (Int32.toNatClampNeg x1)) 1 = 0) (h8 : jm_tg H (jm_R H r0 0) = 9) : jm_w S 9 106 27 [.ref r0, .int x1] [] H Q = jm_c S 105 [.ref (jm_R H r0 0), .ref (jm_R H (jm_R H (jm_R H r0 9) (Int32.toNatClampNeg x1)) 1)] H (fun v G => jm_w S 9 106 43 [.ref r0, .int x1] (v.toList ++ []) G Q) := (js1 at106_27 rfl rfl rfl).trans ((jsgR (H := H) at106_28 rv106g_20 rfl h0 h1 rfl).trans ((js1 at106_31 rfl rfl rfl).trans ((jsgR (H := H) at106_32 rv106g_63 rfl h0 h2 rfl).trans ((js1 at106_35 rfl rfl rfl).trans ((jsaal (H := H) at106_36 h4 h3 h5 rfl).trans ((jsgR (H := H) at106_37 rv106g_189 rfl h6 h7 rfl).trans (jscall (H := H) (as := [.ref (jm_R H r0 0), .ref (jm_R H (jm_R H (jm_R H r0 9) (Int32.toNatClampNeg x1)) 1)]) (q := []) at106_40 rfl rv106i_190 (jscutV rfl rfl rfl (Nat.le_of_ble_eq_true rfl) rfl h8) rfl (Nat.le_of_ble_eq_true rfl) rfl rfl)))))))
theorem at106_43 : jm_at 106 43 = some (.aload_n 0) := by decide +kernel
theorem at106_44 : jm_at 106 44 = some (.aload_n 0) := by decide +kernel
theorem at106_45 : jm_at 106 45 = some (.getfield 63) := by decide +kernel
theorem at106_48 : jm_at 106 48 = some (.iload_n 1) := by decide +kernel
theorem at106_49 : jm_at 106 49 = some (.aaload) := by decide +kernel
theorem at106_50 : jm_at 106 50 = some (.getfield 186) := by decide +kernel
theorem rv106g_186 : jm_rv 106 (.getfield 186) = (0, 5, 0, 0) := by decide +kernel
theorem at106_53 : jm_at 106 53 = some (.invokevirtual 179) := by decide +kernel
theorem rv106i_179 : jm_rv 106 (.invokevirtual 179) = (2, 103, 0, 0) := by decide +kernel
theorem u106_43 {S : Option (Nat × (Nat → Int32))} {H : jm_H} {Q : Option Value → jm_H → Prop} {r0 : Nat} {x1 : Int32} (h0 : jm_tg H r0 = 12) (h1 : ¬ jm_R H r0 9 = 0) (h2 : ¬ (x1 < 0 ∨ jm_ln H (jm_R H r0 9) ≤ Int32.toNatClampNeg x1)) (h3 : jm_tg H (jm_R H r0 9) = 104 ∨ jm_tg H (jm_R H r0 9) = 105) (h4 : ¬ jm_R H (jm_R H r0 9) (Int32.toNatClampNeg x1) = 0) (h5 : jm_tg H (jm_R H (jm_R H r0 9) (Int32.toNatClampNeg x1)) = 6) (h6 : ¬ jm_R H (jm_R H (jm_R H r0 9) (Int32.toNatClampNeg x1)) 0 = 0) : jm_w S 9 106 43 [.ref r0, .int x1] [] H Q = jm_c S 103 [.ref r0, .ref (jm_R H (jm_R H (jm_R H r0 9) (Int32.toNatClampNeg x1)) 0)] H (fun v G => jm_w S 9 106 56 [.ref r0, .int x1] (v.toList ++ []) G Q) := (js1 at106_43 rfl rfl rfl).trans ((js1 at106_44 rfl rfl rfl).trans ((jsgR (H := H) at106_45 rv106g_63 rfl h0 h1 rfl).trans ((js1 at106_48 rfl rfl rfl).trans ((jsaal (H := H) at106_49 h3 h2 h4 rfl).trans ((jsgR (H := H) at106_50 rv106g_186 rfl h5 h6 rfl).trans (jscall (H := H) (as := [.ref r0, .ref (jm_R H (jm_R H (jm_R H r0 9) (Int32.toNatClampNeg x1)) 0)]) (q := []) at106_53 rfl rv106i_179 (jscutV rfl rfl rfl (Nat.le_of_ble_eq_true rfl) rfl h0) rfl (Nat.le_of_ble_eq_true rfl) rfl rfl))))))
theorem at106_56 : jm_at 106 56 = some (.aload_n 0) := by decide +kernel
theorem at106_57 : jm_at 106 57 = some (.iconst 0) := by decide +kernel
theorem at106_58 : jm_at 106 58 = some (.putfield 136) := by decide +kernel
theorem rv106p_136 : jm_rv 106 (.putfield 136) = (0, 11, 15, 0) := by decide +kernel
theorem at106_61 : jm_at 106 61 = some (.iconst 1) := by decide +kernel
theorem at106_62 : jm_at 106 62 = some (.ireturn) := by decide +kernel
theorem u106_56 {S : Option (Nat × (Nat → Int32))} {H : jm_H} {Q : Option Value → jm_H → Prop} {r0 : Nat} {x1 : Int32} (h0 : jm_tg H r0 = 12) : jm_w S 9 106 56 [.ref r0, .int x1] [] H Q = Q (some (.int (1 : Int32))) (jm_pI H r0 15 (0 : Int32)) := (js1 at106_56 rfl rfl rfl).trans ((jsci at106_57 rfl rfl).trans ((jspI (H := H) at106_58 rv106p_136 rfl h0 rfl).trans ((jsci at106_61 rfl rfl).trans (jsret_z at106_62 rfl (by decide)))))
theorem en106 {S : Option (Nat × (Nat → Int32))} {H : jm_H} {Q : Option Value → jm_H → Prop} {r0 : Nat} {x1 : Int32} : jm_c S 106 [.ref r0, .int x1] H Q = jm_w S 9 106 0 [.ref r0, .int x1] [] H Q := rfl
theorem at107_0 : jm_at 107 0 = some (.iload_n 1) := by decide +kernel
theorem at107_1 : jm_at 107 1 = some (.iload_n 2) := by decide +kernel
theorem at107_2 : jm_at 107 2 = some (.iload_n 3) := by decide +kernel
theorem at107_3 : jm_at 107 3 = some (.invokestatic 152) := by decide +kernel
theorem rv107i_152 : jm_rv 107 (.invokestatic 152) = (1, 99, 0, 0) := by decide +kernel
theorem u107_0 {S : Option (Nat × (Nat → Int32))} {H : jm_H} {Q : Option Value → jm_H → Prop} {r0 : Nat} {x1 x2 x3 x4 : Int32} : jm_w S 5 107 0 [.ref r0, .int x1, .int x2, .int x3, .int x4] [] H Q = jm_c S 99 [.int x1, .int x2, .int x3] H (fun v G => jm_w S 5 107 6 [.ref r0, .int x1, .int x2, .int x3, .int x4] (v.toList ++ []) G Q) := (js1 at107_0 rfl rfl rfl).trans ((js1 at107_1 rfl rfl rfl).trans ((js1 at107_2 rfl rfl rfl).trans (jscall (H := H) (as := [.int x1, .int x2, .int x3]) (q := []) at107_3 rfl rv107i_152 (jscut rfl rfl rfl (Nat.le_of_ble_eq_true rfl)) rfl (Nat.le_of_ble_eq_true rfl) rfl rfl)))
theorem at107_6 : jm_at 107 6 = some (.ifCond .eq 15) := by decide +kernel
theorem u107_6 {S : Option (Nat × (Nat → Int32))} {H : jm_H} {Q : Option Value → jm_H → Prop} {r0 : Nat} {x1 x2 x3 x4 p0 : Int32} : jm_w S 5 107 6 [.ref r0, .int x1, .int x2, .int x3, .int x4] [.int p0] H Q = if p0 = 0 then jm_w S 5 107 21 [.ref r0, .int x1, .int x2, .int x3, .int x4] [] H Q else jm_w S 5 107 9 [.ref r0, .int x1, .int x2, .int x3, .int x4] [] H Q := jsif (P := p0 = 0) at107_6 rfl rfl
theorem at107_9 : jm_at 107 9 = some (.iload 4) := by decide +kernel
theorem at107_11 : jm_at 107 11 = some (.ifCond .lt 10) := by decide +kernel
theorem u107_9 {S : Option (Nat × (Nat → Int32))} {H : jm_H} {Q : Option Value → jm_H → Prop} {r0 : Nat} {x1 x2 x3 x4 : Int32} : jm_w S 5 107 9 [.ref r0, .int x1, .int x2, .int x3, .int x4] [] H Q = if x4 < 0 then jm_w S 5 107 21 [.ref r0, .int x1, .int x2, .int x3, .int x4] [] H Q else jm_w S 5 107 14 [.ref r0, .int x1, .int x2, .int x3, .int x4] [] H Q := (js1 at107_9 rfl rfl rfl).trans (jsif (P := x4 < 0) at107_11 rfl rfl)
theorem at107_14 : jm_at 107 14 = some (.iload 4) := by decide +kernel
theorem at107_16 : jm_at 107 16 = some (.bipush 11) := by decide +kernel
theorem at107_18 : jm_at 107 18 = some (.if_icmp .le 6) := by decide +kernel
theorem u107_14 {S : Option (Nat × (Nat → Int32))} {H : jm_H} {Q : Option Value → jm_H → Prop} {r0 : Nat} {x1 x2 x3 x4 : Int32} : jm_w S 5 107 14 [.ref r0, .int x1, .int x2, .int x3, .int x4] [] H Q = if x4 ≤ (11 : Int32) then jm_w S 5 107 24 [.ref r0, .int x1, .int x2, .int x3, .int x4] [] H Q else jm_w S 5 107 21 [.ref r0, .int x1, .int x2, .int x3, .int x4] [] H Q := (js1 at107_14 rfl rfl rfl).trans ((jscb at107_16 rfl rfl).trans (jsif (P := x4 ≤ (11 : Int32)) at107_18 rfl rfl))
theorem at107_21 : jm_at 107 21 = some (.ldc 193) := by decide +kernel
theorem rv107l_193 : jm_rv 107 (.ldc 193) = (8, 0, 0, (-100000)) := by decide +kernel
theorem at107_23 : jm_at 107 23 = some (.ireturn) := by decide +kernel
theorem u107_21 {S : Option (Nat × (Nat → Int32))} {H : jm_H} {Q : Option Value → jm_H → Prop} {r0 : Nat} {x1 x2 x3 x4 : Int32} : jm_w S 5 107 21 [.ref r0, .int x1, .int x2, .int x3, .int x4] [] H Q = Q (some (.int (-100000 : Int32))) H := (jsk at107_21 rv107l_193 rfl rfl).trans (jsret_i at107_23 rfl)
theorem at107_24 : jm_at 107 24 = some (.iload 4) := by decide +kernel
theorem at107_26 : jm_at 107 26 = some (.bipush 9) := by decide +kernel
theorem at107_28 : jm_at 107 28 = some (.if_icmp .ne 9) := by decide +kernel
theorem u107_24 {S : Option (Nat × (Nat → Int32))} {H : jm_H} {Q : Option Value → jm_H → Prop} {r0 : Nat} {x1 x2 x3 x4 : Int32} : jm_w S 5 107 24 [.ref r0, .int x1, .int x2, .int x3, .int x4] [] H Q = if ¬ x4 = (9 : Int32) then jm_w S 5 107 37 [.ref r0, .int x1, .int x2, .int x3, .int x4] [] H Q else jm_w S 5 107 31 [.ref r0, .int x1, .int x2, .int x3, .int x4] [] H Q := (js1 at107_24 rfl rfl rfl).trans ((jscb at107_26 rfl rfl).trans (jsif (P := ¬ x4 = (9 : Int32)) at107_28 rfl rfl))
theorem at107_31 : jm_at 107 31 = some (.iload_n 1) := by decide +kernel
theorem at107_32 : jm_at 107 32 = some (.iload_n 3) := by decide +kernel
theorem at107_33 : jm_at 107 33 = some (.invokestatic 194) := by decide +kernel
theorem rv107i_194 : jm_rv 107 (.invokestatic 194) = (1, 64, 0, 0) := by decide +kernel
theorem u107_31 {S : Option (Nat × (Nat → Int32))} {H : jm_H} {Q : Option Value → jm_H → Prop} {r0 : Nat} {x1 x2 x3 x4 : Int32} : jm_w S 5 107 31 [.ref r0, .int x1, .int x2, .int x3, .int x4] [] H Q = jm_c S 64 [.int x1, .int x3] H (fun v G => jm_w S 5 107 36 [.ref r0, .int x1, .int x2, .int x3, .int x4] (v.toList ++ []) G Q) := (js1 at107_31 rfl rfl rfl).trans ((js1 at107_32 rfl rfl rfl).trans (jscall (H := H) (as := [.int x1, .int x3]) (q := []) at107_33 rfl rv107i_194 (jscut rfl rfl rfl (Nat.le_of_ble_eq_true rfl)) rfl (Nat.le_of_ble_eq_true rfl) rfl rfl))
theorem at107_36 : jm_at 107 36 = some (.ireturn) := by decide +kernel
theorem u107_36 {S : Option (Nat × (Nat → Int32))} {H : jm_H} {Q : Option Value → jm_H → Prop} {r0 : Nat} {x1 x2 x3 x4 p0 : Int32} : jm_w S 5 107 36 [.ref r0, .int x1, .int x2, .int x3, .int x4] [.int p0] H Q = Q (some (.int p0)) H := jsret_i at107_36 rfl
theorem at107_37 : jm_at 107 37 = some (.iload_n 1) := by decide +kernel
theorem at107_38 : jm_at 107 38 = some (.iload_n 3) := by decide +kernel
theorem at107_39 : jm_at 107 39 = some (.invokestatic 197) := by decide +kernel
theorem rv107i_197 : jm_rv 107 (.invokestatic 197) = (1, 69, 0, 0) := by decide +kernel
theorem u107_37 {S : Option (Nat × (Nat → Int32))} {H : jm_H} {Q : Option Value → jm_H → Prop} {r0 : Nat} {x1 x2 x3 x4 : Int32} : jm_w S 5 107 37 [.ref r0, .int x1, .int x2, .int x3, .int x4] [] H Q = jm_c S 69 [.int x1, .int x3] H (fun v G => jm_w S 5 107 42 [.ref r0, .int x1, .int x2, .int x3, .int x4] (v.toList ++ []) G Q) := (js1 at107_37 rfl rfl rfl).trans ((js1 at107_38 rfl rfl rfl).trans (jscall (H := H) (as := [.int x1, .int x3]) (q := []) at107_39 rfl rv107i_197 (jscut rfl rfl rfl (Nat.le_of_ble_eq_true rfl)) rfl (Nat.le_of_ble_eq_true rfl) rfl rfl))
theorem at107_42 : jm_at 107 42 = some (.ifCond .eq 6) := by decide +kernel
theorem u107_42 {S : Option (Nat × (Nat → Int32))} {H : jm_H} {Q : Option Value → jm_H → Prop} {r0 : Nat} {x1 x2 x3 x4 p0 : Int32} : jm_w S 5 107 42 [.ref r0, .int x1, .int x2, .int x3, .int x4] [.int p0] H Q = if p0 = 0 then jm_w S 5 107 48 [.ref r0, .int x1, .int x2, .int x3, .int x4] [] H Q else jm_w S 5 107 45 [.ref r0, .int x1, .int x2, .int x3, .int x4] [] H Q := jsif (P := p0 = 0) at107_42 rfl rfl
theorem at107_45 : jm_at 107 45 = some (.ldc 193) := by decide +kernel
theorem at107_47 : jm_at 107 47 = some (.ireturn) := by decide +kernel
theorem u107_45 {S : Option (Nat × (Nat → Int32))} {H : jm_H} {Q : Option Value → jm_H → Prop} {r0 : Nat} {x1 x2 x3 x4 : Int32} : jm_w S 5 107 45 [.ref r0, .int x1, .int x2, .int x3, .int x4] [] H Q = Q (some (.int (-100000 : Int32))) H := (jsk at107_45 rv107l_193 rfl rfl).trans (jsret_i at107_47 rfl)
theorem at107_48 : jm_at 107 48 = some (.iload 4) := by decide +kernel
theorem u107_48 {S : Option (Nat × (Nat → Int32))} {H : jm_H} {Q : Option Value → jm_H → Prop} {r0 : Nat} {x1 x2 x3 x4 : Int32} : jm_w S 5 107 48 [.ref r0, .int x1, .int x2, .int x3, .int x4] [] H Q = jm_w S 5 107 50 [.ref r0, .int x1, .int x2, .int x3, .int x4] [.int x4] H Q := js1 at107_48 rfl rfl rfl
theorem at107_50 : jm_at 107 50 = some (.lookupswitch 111 #[(0, 42), (8, 51), (10, 69), (11, 88)]) := by decide +kernel
theorem u107_50_0 {S : Option (Nat × (Nat → Int32))} {H : jm_H} {Q : Option Value → jm_H → Prop} {r0 : Nat} {x1 x2 x3 x4 : Int32} : jm_w S 5 107 50 [.ref r0, .int x1, .int x2, .int x3, .int x4] [.int 0] H Q = jm_w S 5 107 92 [.ref r0, .int x1, .int x2, .int x3, .int x4] [] H Q := js2 at107_50 rfl rfl
theorem u107_50_8 {S : Option (Nat × (Nat → Int32))} {H : jm_H} {Q : Option Value → jm_H → Prop} {r0 : Nat} {x1 x2 x3 x4 : Int32} : jm_w S 5 107 50 [.ref r0, .int x1, .int x2, .int x3, .int x4] [.int 8] H Q = jm_w S 5 107 101 [.ref r0, .int x1, .int x2, .int x3, .int x4] [] H Q := js2 at107_50 rfl rfl
theorem u107_50_10 {S : Option (Nat × (Nat → Int32))} {H : jm_H} {Q : Option Value → jm_H → Prop} {r0 : Nat} {x1 x2 x3 x4 : Int32} : jm_w S 5 107 50 [.ref r0, .int x1, .int x2, .int x3, .int x4] [.int 10] H Q = jm_w S 5 107 119 [.ref r0, .int x1, .int x2, .int x3, .int x4] [] H Q := js2 at107_50 rfl rfl
theorem u107_50_11 {S : Option (Nat × (Nat → Int32))} {H : jm_H} {Q : Option Value → jm_H → Prop} {r0 : Nat} {x1 x2 x3 x4 : Int32} : jm_w S 5 107 50 [.ref r0, .int x1, .int x2, .int x3, .int x4] [.int 11] H Q = jm_w S 5 107 138 [.ref r0, .int x1, .int x2, .int x3, .int x4] [] H Q := js2 at107_50 rfl rfl
theorem u107_50_d {S : Option (Nat × (Nat → Int32))} {H : jm_H} {Q : Option Value → jm_H → Prop} {r0 : Nat} {x1 x2 x3 x4 p0 : Int32} (h0 : ¬ p0 = 0) (h1 : ¬ p0 = 8) (h2 : ¬ p0 = 10) (h3 : ¬ p0 = 11) : jm_w S 5 107 50 [.ref r0, .int x1, .int x2, .int x3, .int x4] [.int p0] H Q = jm_w S 5 107 161 [.ref r0, .int x1, .int x2, .int x3, .int x4] [] H Q := js2 at107_50 rfl (by unfold jm_br; dsimp only; rw [if_pos (by decide)]; rw [lv_osw (a := 0) h0 (by decide)]; rw [lv_osw (a := 8) h1 (by decide)]; rw [lv_osw (a := 10) h2 (by decide)]; rw [lv_osw (a := 11) h3 (by decide)]; try rfl)
theorem at107_92 : jm_at 107 92 = some (.iload_n 1) := by decide +kernel
theorem at107_93 : jm_at 107 93 = some (.iload_n 3) := by decide +kernel
theorem at107_94 : jm_at 107 94 = some (.invokestatic 200) := by decide +kernel
theorem rv107i_200 : jm_rv 107 (.invokestatic 200) = (1, 108, 0, 0) := by decide +kernel
theorem u107_92 {S : Option (Nat × (Nat → Int32))} {H : jm_H} {Q : Option Value → jm_H → Prop} {r0 : Nat} {x1 x2 x3 x4 : Int32} : jm_w S 5 107 92 [.ref r0, .int x1, .int x2, .int x3, .int x4] [] H Q = jm_c S 108 [.int x1, .int x3] H (fun v G => jm_w S 5 107 97 [.ref r0, .int x1, .int x2, .int x3, .int x4] (v.toList ++ []) G Q) := (js1 at107_92 rfl rfl rfl).trans ((js1 at107_93 rfl rfl rfl).trans (jscall (H := H) (as := [.int x1, .int x3]) (q := []) at107_94 rfl rv107i_200 (jscut rfl rfl rfl (Nat.le_of_ble_eq_true rfl)) rfl (Nat.le_of_ble_eq_true rfl) rfl rfl))
theorem at107_97 : jm_at 107 97 = some (.invokestatic 203) := by decide +kernel
theorem rv107i_203 : jm_rv 107 (.invokestatic 203) = (1, 46, 0, 0) := by decide +kernel
theorem u107_97 {S : Option (Nat × (Nat → Int32))} {H : jm_H} {Q : Option Value → jm_H → Prop} {r0 : Nat} {x1 x2 x3 x4 p0 : Int32} : jm_w S 5 107 97 [.ref r0, .int x1, .int x2, .int x3, .int x4] [.int p0] H Q = jm_c S 46 [.int p0] H (fun v G => jm_w S 5 107 100 [.ref r0, .int x1, .int x2, .int x3, .int x4] (v.toList ++ []) G Q) := jscall (H := H) (as := [.int p0]) (q := []) at107_97 rfl rv107i_203 (jscut rfl rfl rfl (Nat.le_of_ble_eq_true rfl)) rfl (Nat.le_of_ble_eq_true rfl) rfl rfl
theorem at107_100 : jm_at 107 100 = some (.ireturn) := by decide +kernel
theorem u107_100 {S : Option (Nat × (Nat → Int32))} {H : jm_H} {Q : Option Value → jm_H → Prop} {r0 : Nat} {x1 x2 x3 x4 p0 : Int32} : jm_w S 5 107 100 [.ref r0, .int x1, .int x2, .int x3, .int x4] [.int p0] H Q = Q (some (.int p0)) H := jsret_i at107_100 rfl
theorem at107_101 : jm_at 107 101 = some (.aload_n 0) := by decide +kernel
theorem at107_102 : jm_at 107 102 = some (.getfield 43) := by decide +kernel
theorem rv107g_43 : jm_rv 107 (.getfield 43) = (0, 11, 5, 0) := by decide +kernel
theorem at107_105 : jm_at 107 105 = some (.iload_n 1) := by decide +kernel
theorem at107_106 : jm_at 107 106 = some (.iload_n 2) := by decide +kernel
theorem at107_107 : jm_at 107 107 = some (.iload_n 3) := by decide +kernel
theorem at107_108 : jm_at 107 108 = some (.invokevirtual 156) := by decide +kernel
theorem rv107i_156 : jm_rv 107 (.invokevirtual 156) = (2, 68, 0, 0) := by decide +kernel
theorem u107_101 {S : Option (Nat × (Nat → Int32))} {H : jm_H} {Q : Option Value → jm_H → Prop} {r0 : Nat} {x1 x2 x3 x4 : Int32} (h0 : jm_tg H r0 = 12) (h1 : ¬ jm_R H r0 5 = 0) (h2 : jm_tg H (jm_R H r0 5) = 3) : jm_w S 5 107 101 [.ref r0, .int x1, .int x2, .int x3, .int x4] [] H Q = jm_c S 68 [.ref (jm_R H r0 5), .int x1, .int x2, .int x3] H (fun v G => jm_w S 5 107 111 [.ref r0, .int x1, .int x2, .int x3, .int x4] (v.toList ++ []) G Q) := (js1 at107_101 rfl rfl rfl).trans ((jsgR (H := H) at107_102 rv107g_43 rfl h0 h1 rfl).trans ((js1 at107_105 rfl rfl rfl).trans ((js1 at107_106 rfl rfl rfl).trans ((js1 at107_107 rfl rfl rfl).trans (jscall (H := H) (as := [.ref (jm_R H r0 5), .int x1, .int x2, .int x3]) (q := []) at107_108 rfl rv107i_156 (jscutV rfl rfl rfl (Nat.le_of_ble_eq_true rfl) rfl h2) rfl (Nat.le_of_ble_eq_true rfl) rfl rfl)))))
theorem at107_111 : jm_at 107 111 = some (.aload_n 0) := by decide +kernel
theorem at107_112 : jm_at 107 112 = some (.getfield 43) := by decide +kernel
theorem at107_115 : jm_at 107 115 = some (.invokevirtual 209) := by decide +kernel
theorem rv107i_209 : jm_rv 107 (.invokevirtual 209) = (2, 109, 0, 0) := by decide +kernel
theorem u107_111 {S : Option (Nat × (Nat → Int32))} {H : jm_H} {Q : Option Value → jm_H → Prop} {r0 : Nat} {x1 x2 x3 x4 : Int32} (h0 : jm_tg H r0 = 12) (h1 : ¬ jm_R H r0 5 = 0) (h2 : jm_tg H (jm_R H r0 5) = 3) : jm_w S 5 107 111 [.ref r0, .int x1, .int x2, .int x3, .int x4] [] H Q = jm_c S 109 [.ref (jm_R H r0 5)] H (fun v G => jm_w S 5 107 118 [.ref r0, .int x1, .int x2, .int x3, .int x4] (v.toList ++ []) G Q) := (js1 at107_111 rfl rfl rfl).trans ((jsgR (H := H) at107_112 rv107g_43 rfl h0 h1 rfl).trans (jscall (H := H) (as := [.ref (jm_R H r0 5)]) (q := []) at107_115 rfl rv107i_209 (jscutV rfl rfl rfl (Nat.le_of_ble_eq_true rfl) rfl h2) rfl (Nat.le_of_ble_eq_true rfl) rfl rfl))
theorem at107_118 : jm_at 107 118 = some (.ireturn) := by decide +kernel
theorem u107_118 {S : Option (Nat × (Nat → Int32))} {H : jm_H} {Q : Option Value → jm_H → Prop} {r0 : Nat} {x1 x2 x3 x4 p0 : Int32} : jm_w S 5 107 118 [.ref r0, .int x1, .int x2, .int x3, .int x4] [.int p0] H Q = Q (some (.int p0)) H := jsret_i at107_118 rfl
theorem at107_119 : jm_at 107 119 = some (.iload_n 3) := by decide +kernel
theorem at107_120 : jm_at 107 120 = some (.iload_n 1) := by decide +kernel
theorem at107_121 : jm_at 107 121 = some (.invokestatic 212) := by decide +kernel
theorem rv107i_212 : jm_rv 107 (.invokestatic 212) = (1, 60, 0, 0) := by decide +kernel
theorem u107_119 {S : Option (Nat × (Nat → Int32))} {H : jm_H} {Q : Option Value → jm_H → Prop} {r0 : Nat} {x1 x2 x3 x4 : Int32} : jm_w S 5 107 119 [.ref r0, .int x1, .int x2, .int x3, .int x4] [] H Q = jm_c S 60 [.int x1] H (fun v G => jm_w S 5 107 124 [.ref r0, .int x1, .int x2, .int x3, .int x4] (v.toList ++ [.int x3]) G Q) := (js1 at107_119 rfl rfl rfl).trans ((js1 at107_120 rfl rfl rfl).trans (jscall (H := H) (as := [.int x1]) (q := [.int x3]) at107_121 rfl rv107i_212 (jscut rfl rfl rfl (Nat.le_of_ble_eq_true rfl)) rfl (Nat.le_of_ble_eq_true rfl) rfl rfl))
theorem at107_124 : jm_at 107 124 = some (.if_icmp .ne 8) := by decide +kernel
theorem u107_124 {S : Option (Nat × (Nat → Int32))} {H : jm_H} {Q : Option Value → jm_H → Prop} {r0 : Nat} {x1 x2 x3 x4 p0 p1 : Int32} : jm_w S 5 107 124 [.ref r0, .int x1, .int x2, .int x3, .int x4] [.int p1, .int p0] H Q = if ¬ p0 = p1 then jm_w S 5 107 132 [.ref r0, .int x1, .int x2, .int x3, .int x4] [] H Q else jm_w S 5 107 127 [.ref r0, .int x1, .int x2, .int x3, .int x4] [] H Q := jsif (P := ¬ p0 = p1) at107_124 rfl rfl
theorem at107_127 : jm_at 107 127 = some (.bipush (-2)) := by decide +kernel
theorem at107_129 : jm_at 107 129 = some (.goto 8) := by decide +kernel
theorem u107_127 {S : Option (Nat × (Nat → Int32))} {H : jm_H} {Q : Option Value → jm_H → Prop} {r0 : Nat} {x1 x2 x3 x4 : Int32} : jm_w S 5 107 127 [.ref r0, .int x1, .int x2, .int x3, .int x4] [] H Q = jm_w S 5 107 137 [.ref r0, .int x1, .int x2, .int x3, .int x4] [.int (-2 : Int32)] H Q := (jscb at107_127 rfl rfl).trans (js2 at107_129 rfl rfl)
theorem at107_132 : jm_at 107 132 = some (.iload_n 1) := by decide +kernel
theorem at107_133 : jm_at 107 133 = some (.iload_n 3) := by decide +kernel
theorem at107_134 : jm_at 107 134 = some (.invokestatic 215) := by decide +kernel
theorem rv107i_215 : jm_rv 107 (.invokestatic 215) = (1, 111, 0, 0) := by decide +kernel
theorem u107_132 {S : Option (Nat × (Nat → Int32))} {H : jm_H} {Q : Option Value → jm_H → Prop} {r0 : Nat} {x1 x2 x3 x4 : Int32} : jm_w S 5 107 132 [.ref r0, .int x1, .int x2, .int x3, .int x4] [] H Q = jm_c S 111 [.int x1, .int x3] H (fun v G => jm_w S 5 107 137 [.ref r0, .int x1, .int x2, .int x3, .int x4] (v.toList ++ []) G Q) := (js1 at107_132 rfl rfl rfl).trans ((js1 at107_133 rfl rfl rfl).trans (jscall (H := H) (as := [.int x1, .int x3]) (q := []) at107_134 rfl rv107i_215 (jscut rfl rfl rfl (Nat.le_of_ble_eq_true rfl)) rfl (Nat.le_of_ble_eq_true rfl) rfl rfl))
theorem at107_137 : jm_at 107 137 = some (.ireturn) := by decide +kernel
theorem u107_137 {S : Option (Nat × (Nat → Int32))} {H : jm_H} {Q : Option Value → jm_H → Prop} {r0 : Nat} {x1 x2 x3 x4 p0 : Int32} : jm_w S 5 107 137 [.ref r0, .int x1, .int x2, .int x3, .int x4] [.int p0] H Q = Q (some (.int p0)) H := jsret_i at107_137 rfl
theorem at107_138 : jm_at 107 138 = some (.iload_n 3) := by decide +kernel
theorem at107_139 : jm_at 107 139 = some (.iload_n 1) := by decide +kernel
theorem at107_140 : jm_at 107 140 = some (.iload_n 1) := by decide +kernel
theorem at107_141 : jm_at 107 141 = some (.invokestatic 212) := by decide +kernel
theorem u107_138 {S : Option (Nat × (Nat → Int32))} {H : jm_H} {Q : Option Value → jm_H → Prop} {r0 : Nat} {x1 x2 x3 x4 : Int32} : jm_w S 5 107 138 [.ref r0, .int x1, .int x2, .int x3, .int x4] [] H Q = jm_c S 60 [.int x1] H (fun v G => jm_w S 5 107 144 [.ref r0, .int x1, .int x2, .int x3, .int x4] (v.toList ++ [.int x1, .int x3]) G Q) := (js1 at107_138 rfl rfl rfl).trans ((js1 at107_139 rfl rfl rfl).trans ((js1 at107_140 rfl rfl rfl).trans (jscall (H := H) (as := [.int x1]) (q := [.int x1, .int x3]) at107_141 rfl rv107i_212 (jscut rfl rfl rfl (Nat.le_of_ble_eq_true rfl)) rfl (Nat.le_of_ble_eq_true rfl) rfl rfl)))
theorem at107_144 : jm_at 107 144 = some (.invokestatic 194) := by decide +kernel
theorem u107_144 {S : Option (Nat × (Nat → Int32))} {H : jm_H} {Q : Option Value → jm_H → Prop} {r0 : Nat} {x1 x2 x3 x4 p0 p1 p2 : Int32} : jm_w S 5 107 144 [.ref r0, .int x1, .int x2, .int x3, .int x4] [.int p2, .int p1, .int p0] H Q = jm_c S 64 [.int p1, .int p2] H (fun v G => jm_w S 5 107 147 [.ref r0, .int x1, .int x2, .int x3, .int x4] (v.toList ++ [.int p0]) G Q) := jscall (H := H) (as := [.int p1, .int p2]) (q := [.int p0]) at107_144 rfl rv107i_194 (jscut rfl rfl rfl (Nat.le_of_ble_eq_true rfl)) rfl (Nat.le_of_ble_eq_true rfl) rfl rfl
theorem at107_147 : jm_at 107 147 = some (.if_icmp .ne 8) := by decide +kernel
theorem u107_147 {S : Option (Nat × (Nat → Int32))} {H : jm_H} {Q : Option Value → jm_H → Prop} {r0 : Nat} {x1 x2 x3 x4 p0 p1 : Int32} : jm_w S 5 107 147 [.ref r0, .int x1, .int x2, .int x3, .int x4] [.int p1, .int p0] H Q = if ¬ p0 = p1 then jm_w S 5 107 155 [.ref r0, .int x1, .int x2, .int x3, .int x4] [] H Q else jm_w S 5 107 150 [.ref r0, .int x1, .int x2, .int x3, .int x4] [] H Q := jsif (P := ¬ p0 = p1) at107_147 rfl rfl
theorem at107_150 : jm_at 107 150 = some (.bipush (-2)) := by decide +kernel
theorem at107_152 : jm_at 107 152 = some (.goto 8) := by decide +kernel
theorem u107_150 {S : Option (Nat × (Nat → Int32))} {H : jm_H} {Q : Option Value → jm_H → Prop} {r0 : Nat} {x1 x2 x3 x4 : Int32} : jm_w S 5 107 150 [.ref r0, .int x1, .int x2, .int x3, .int x4] [] H Q = jm_w S 5 107 160 [.ref r0, .int x1, .int x2, .int x3, .int x4] [.int (-2 : Int32)] H Q := (jscb at107_150 rfl rfl).trans (js2 at107_152 rfl rfl)
theorem at107_155 : jm_at 107 155 = some (.iload_n 1) := by decide +kernel
theorem at107_156 : jm_at 107 156 = some (.iload_n 3) := by decide +kernel
theorem at107_157 : jm_at 107 157 = some (.invokestatic 218) := by decide +kernel
theorem rv107i_218 : jm_rv 107 (.invokestatic 218) = (1, 112, 0, 0) := by decide +kernel
theorem u107_155 {S : Option (Nat × (Nat → Int32))} {H : jm_H} {Q : Option Value → jm_H → Prop} {r0 : Nat} {x1 x2 x3 x4 : Int32} : jm_w S 5 107 155 [.ref r0, .int x1, .int x2, .int x3, .int x4] [] H Q = jm_c S 112 [.int x1, .int x3] H (fun v G => jm_w S 5 107 160 [.ref r0, .int x1, .int x2, .int x3, .int x4] (v.toList ++ []) G Q) := (js1 at107_155 rfl rfl rfl).trans ((js1 at107_156 rfl rfl rfl).trans (jscall (H := H) (as := [.int x1, .int x3]) (q := []) at107_157 rfl rv107i_218 (jscut rfl rfl rfl (Nat.le_of_ble_eq_true rfl)) rfl (Nat.le_of_ble_eq_true rfl) rfl rfl))
theorem at107_160 : jm_at 107 160 = some (.ireturn) := by decide +kernel
theorem u107_160 {S : Option (Nat × (Nat → Int32))} {H : jm_H} {Q : Option Value → jm_H → Prop} {r0 : Nat} {x1 x2 x3 x4 p0 : Int32} : jm_w S 5 107 160 [.ref r0, .int x1, .int x2, .int x3, .int x4] [.int p0] H Q = Q (some (.int p0)) H := jsret_i at107_160 rfl
theorem at107_161 : jm_at 107 161 = some (.iload_n 3) := by decide +kernel
theorem at107_162 : jm_at 107 162 = some (.ifCond .ne 8) := by decide +kernel
theorem u107_161 {S : Option (Nat × (Nat → Int32))} {H : jm_H} {Q : Option Value → jm_H → Prop} {r0 : Nat} {x1 x2 x3 x4 : Int32} : jm_w S 5 107 161 [.ref r0, .int x1, .int x2, .int x3, .int x4] [] H Q = if ¬ x3 = 0 then jm_w S 5 107 170 [.ref r0, .int x1, .int x2, .int x3, .int x4] [] H Q else jm_w S 5 107 165 [.ref r0, .int x1, .int x2, .int x3, .int x4] [] H Q := (js1 at107_161 rfl rfl rfl).trans (jsif (P := ¬ x3 = 0) at107_162 rfl rfl)
theorem at107_165 : jm_at 107 165 = some (.ldc 193) := by decide +kernel
theorem at107_167 : jm_at 107 167 = some (.goto 12) := by decide +kernel
theorem u107_165 {S : Option (Nat × (Nat → Int32))} {H : jm_H} {Q : Option Value → jm_H → Prop} {r0 : Nat} {x1 x2 x3 x4 : Int32} : jm_w S 5 107 165 [.ref r0, .int x1, .int x2, .int x3, .int x4] [] H Q = jm_w S 5 107 179 [.ref r0, .int x1, .int x2, .int x3, .int x4] [.int (-100000 : Int32)] H Q := (jsk at107_165 rv107l_193 rfl rfl).trans (js2 at107_167 rfl rfl)
theorem at107_170 : jm_at 107 170 = some (.aload_n 0) := by decide +kernel
theorem at107_171 : jm_at 107 171 = some (.iload_n 1) := by decide +kernel
theorem at107_172 : jm_at 107 172 = some (.iload_n 2) := by decide +kernel
theorem at107_173 : jm_at 107 173 = some (.iload_n 3) := by decide +kernel
theorem at107_174 : jm_at 107 174 = some (.iload 4) := by decide +kernel
theorem at107_176 : jm_at 107 176 = some (.invokevirtual 221) := by decide +kernel
theorem rv107i_221 : jm_rv 107 (.invokevirtual 221) = (2, 113, 0, 0) := by decide +kernel
theorem u107_170 {S : Option (Nat × (Nat → Int32))} {H : jm_H} {Q : Option Value → jm_H → Prop} {r0 : Nat} {x1 x2 x3 x4 : Int32} (h0 : jm_tg H r0 = 12) : jm_w S 5 107 170 [.ref r0, .int x1, .int x2, .int x3, .int x4] [] H Q = jm_c S 113 [.ref r0, .int x1, .int x2, .int x3, .int x4] H (fun v G => jm_w S 5 107 179 [.ref r0, .int x1, .int x2, .int x3, .int x4] (v.toList ++ []) G Q) := (js1 at107_170 rfl rfl rfl).trans ((js1 at107_171 rfl rfl rfl).trans ((js1 at107_172 rfl rfl rfl).trans ((js1 at107_173 rfl rfl rfl).trans ((js1 at107_174 rfl rfl rfl).trans (jscall (H := H) (as := [.ref r0, .int x1, .int x2, .int x3, .int x4]) (q := []) at107_176 rfl rv107i_221 (jscutV rfl rfl rfl (Nat.le_of_ble_eq_true rfl) rfl h0) rfl (Nat.le_of_ble_eq_true rfl) rfl rfl)))))
theorem at107_179 : jm_at 107 179 = some (.ireturn) := by decide +kernel
theorem u107_179 {S : Option (Nat × (Nat → Int32))} {H : jm_H} {Q : Option Value → jm_H → Prop} {r0 : Nat} {x1 x2 x3 x4 p0 : Int32} : jm_w S 5 107 179 [.ref r0, .int x1, .int x2, .int x3, .int x4] [.int p0] H Q = Q (some (.int p0)) H := jsret_i at107_179 rfl
theorem en107 {S : Option (Nat × (Nat → Int32))} {H : jm_H} {Q : Option Value → jm_H → Prop} {r0 : Nat} {x1 x2 x3 x4 : Int32} : jm_c S 107 [.ref r0, .int x1, .int x2, .int x3, .int x4] H Q = jm_w S 5 107 0 [.ref r0, .int x1, .int x2, .int x3, .int x4] [] H Q := rfl
theorem at113_0 : jm_at 113 0 = some (.aload_n 0) := by decide +kernel
theorem at113_1 : jm_at 113 1 = some (.getfield 43) := by decide +kernel
theorem rv113g_43 : jm_rv 113 (.getfield 43) = (0, 11, 5, 0) := by decide +kernel
theorem at113_4 : jm_at 113 4 = some (.iload_n 1) := by decide +kernel
theorem at113_5 : jm_at 113 5 = some (.iload_n 2) := by decide +kernel
theorem at113_6 : jm_at 113 6 = some (.iload_n 3) := by decide +kernel
theorem at113_7 : jm_at 113 7 = some (.invokevirtual 156) := by decide +kernel
theorem rv113i_156 : jm_rv 113 (.invokevirtual 156) = (2, 68, 0, 0) := by decide +kernel
theorem u113_0 {S : Option (Nat × (Nat → Int32))} {H : jm_H} {Q : Option Value → jm_H → Prop} {r0 : Nat} {x1 x2 x3 x4 : Int32} (h0 : jm_tg H r0 = 12) (h1 : ¬ jm_R H r0 5 = 0) (h2 : jm_tg H (jm_R H r0 5) = 3) : jm_w S 4 113 0 [.ref r0, .int x1, .int x2, .int x3, .int x4] [] H Q = jm_c S 68 [.ref (jm_R H r0 5), .int x1, .int x2, .int x3] H (fun v G => jm_w S 4 113 10 [.ref r0, .int x1, .int x2, .int x3, .int x4] (v.toList ++ []) G Q) := (js1 at113_0 rfl rfl rfl).trans ((jsgR (H := H) at113_1 rv113g_43 rfl h0 h1 rfl).trans ((js1 at113_4 rfl rfl rfl).trans ((js1 at113_5 rfl rfl rfl).trans ((js1 at113_6 rfl rfl rfl).trans (jscall (H := H) (as := [.ref (jm_R H r0 5), .int x1, .int x2, .int x3]) (q := []) at113_7 rfl rv113i_156 (jscutV rfl rfl rfl (Nat.le_of_ble_eq_true rfl) rfl h2) rfl (Nat.le_of_ble_eq_true rfl) rfl rfl)))))
theorem at113_10 : jm_at 113 10 = some (.iload 4) := by decide +kernel
theorem u113_10 {S : Option (Nat × (Nat → Int32))} {H : jm_H} {Q : Option Value → jm_H → Prop} {r0 : Nat} {x1 x2 x3 x4 : Int32} : jm_w S 4 113 10 [.ref r0, .int x1, .int x2, .int x3, .int x4] [] H Q = jm_w S 4 113 12 [.ref r0, .int x1, .int x2, .int x3, .int x4] [.int x4] H Q := js1 at113_10 rfl rfl rfl
theorem at113_12 : jm_at 113 12 = some (.tableswitch 104 1 6 #[40, 51, 62, 73, 84, 95]) := by decide +kernel
theorem u113_12_1 {S : Option (Nat × (Nat → Int32))} {H : jm_H} {Q : Option Value → jm_H → Prop} {r0 : Nat} {x1 x2 x3 x4 : Int32} : jm_w S 4 113 12 [.ref r0, .int x1, .int x2, .int x3, .int x4] [.int 1] H Q = jm_w S 4 113 52 [.ref r0, .int x1, .int x2, .int x3, .int x4] [] H Q := js2 at113_12 rfl rfl
theorem u113_12_2 {S : Option (Nat × (Nat → Int32))} {H : jm_H} {Q : Option Value → jm_H → Prop} {r0 : Nat} {x1 x2 x3 x4 : Int32} : jm_w S 4 113 12 [.ref r0, .int x1, .int x2, .int x3, .int x4] [.int 2] H Q = jm_w S 4 113 63 [.ref r0, .int x1, .int x2, .int x3, .int x4] [] H Q := js2 at113_12 rfl rfl
theorem u113_12_3 {S : Option (Nat × (Nat → Int32))} {H : jm_H} {Q : Option Value → jm_H → Prop} {r0 : Nat} {x1 x2 x3 x4 : Int32} : jm_w S 4 113 12 [.ref r0, .int x1, .int x2, .int x3, .int x4] [.int 3] H Q = jm_w S 4 113 74 [.ref r0, .int x1, .int x2, .int x3, .int x4] [] H Q := js2 at113_12 rfl rfl
theorem u113_12_4 {S : Option (Nat × (Nat → Int32))} {H : jm_H} {Q : Option Value → jm_H → Prop} {r0 : Nat} {x1 x2 x3 x4 : Int32} : jm_w S 4 113 12 [.ref r0, .int x1, .int x2, .int x3, .int x4] [.int 4] H Q = jm_w S 4 113 85 [.ref r0, .int x1, .int x2, .int x3, .int x4] [] H Q := js2 at113_12 rfl rfl
theorem u113_12_5 {S : Option (Nat × (Nat → Int32))} {H : jm_H} {Q : Option Value → jm_H → Prop} {r0 : Nat} {x1 x2 x3 x4 : Int32} : jm_w S 4 113 12 [.ref r0, .int x1, .int x2, .int x3, .int x4] [.int 5] H Q = jm_w S 4 113 96 [.ref r0, .int x1, .int x2, .int x3, .int x4] [] H Q := js2 at113_12 rfl rfl
theorem u113_12_6 {S : Option (Nat × (Nat → Int32))} {H : jm_H} {Q : Option Value → jm_H → Prop} {r0 : Nat} {x1 x2 x3 x4 : Int32} : jm_w S 4 113 12 [.ref r0, .int x1, .int x2, .int x3, .int x4] [.int 6] H Q = jm_w S 4 113 107 [.ref r0, .int x1, .int x2, .int x3, .int x4] [] H Q := js2 at113_12 rfl rfl
theorem u113_12_d {S : Option (Nat × (Nat → Int32))} {H : jm_H} {Q : Option Value → jm_H → Prop} {r0 : Nat} {x1 x2 x3 x4 p0 : Int32} (h : Int32.toInt p0 < 1 ∨ 6 < Int32.toInt p0) : jm_w S 4 113 12 [.ref r0, .int x1, .int x2, .int x3, .int x4] [.int p0] H Q = jm_w S 4 113 116 [.ref r0, .int x1, .int x2, .int x3, .int x4] [] H Q := js2 at113_12 rfl ((if_pos h).trans rfl)
theorem at113_52 : jm_at 113 52 = some (.aload_n 0) := by decide +kernel
theorem at113_53 : jm_at 113 53 = some (.getfield 43) := by decide +kernel
theorem at113_56 : jm_at 113 56 = some (.getfield 225) := by decide +kernel
theorem rv113g_225 : jm_rv 113 (.getfield 225) = (0, 2, 0, 0) := by decide +kernel
theorem at113_59 : jm_at 113 59 = some (.getfield 229) := by decide +kernel
theorem rv113g_229 : jm_rv 113 (.getfield 229) = (0, 4, 0, 0) := by decide +kernel
theorem at113_62 : jm_at 113 62 = some (.ireturn) := by decide +kernel
theorem u113_52 {S : Option (Nat × (Nat → Int32))} {H : jm_H} {Q : Option Value → jm_H → Prop} {r0 : Nat} {x1 x2 x3 x4 : Int32} (h0 : jm_tg H r0 = 12) (h1 : ¬ jm_R H r0 5 = 0) (h2 : jm_tg H (jm_R H r0 5) = 3) (h3 : ¬ jm_R H (jm_R H r0 5) 0 = 0) (h4 : jm_tg H (jm_R H (jm_R H r0 5) 0) = 5) : jm_w S 4 113 52 [.ref r0, .int x1, .int x2, .int x3, .int x4] [] H Q = Q (some (.int (jm_I H (jm_R H (jm_R H r0 5) 0) 0))) H := (js1 at113_52 rfl rfl rfl).trans ((jsgR (H := H) at113_53 rv113g_43 rfl h0 h1 rfl).trans ((jsgR (H := H) at113_56 rv113g_225 rfl h2 h3 rfl).trans ((jsgI (H := H) at113_59 rv113g_229 (Or.inl rfl) h4 rfl).trans (jsret_i at113_62 rfl))))
theorem at113_63 : jm_at 113 63 = some (.aload_n 0) := by decide +kernel
theorem at113_64 : jm_at 113 64 = some (.getfield 43) := by decide +kernel
theorem at113_67 : jm_at 113 67 = some (.getfield 225) := by decide +kernel
theorem at113_70 : jm_at 113 70 = some (.getfield 232) := by decide +kernel
theorem rv113g_232 : jm_rv 113 (.getfield 232) = (0, 4, 1, 0) := by decide +kernel
theorem at113_73 : jm_at 113 73 = some (.ireturn) := by decide +kernel
theorem u113_63 {S : Option (Nat × (Nat → Int32))} {H : jm_H} {Q : Option Value → jm_H → Prop} {r0 : Nat} {x1 x2 x3 x4 : Int32} (h0 : jm_tg H r0 = 12) (h1 : ¬ jm_R H r0 5 = 0) (h2 : jm_tg H (jm_R H r0 5) = 3) (h3 : ¬ jm_R H (jm_R H r0 5) 0 = 0) (h4 : jm_tg H (jm_R H (jm_R H r0 5) 0) = 5) : jm_w S 4 113 63 [.ref r0, .int x1, .int x2, .int x3, .int x4] [] H Q = Q (some (.int (jm_I H (jm_R H (jm_R H r0 5) 0) 1))) H := (js1 at113_63 rfl rfl rfl).trans ((jsgR (H := H) at113_64 rv113g_43 rfl h0 h1 rfl).trans ((jsgR (H := H) at113_67 rv113g_225 rfl h2 h3 rfl).trans ((jsgI (H := H) at113_70 rv113g_232 (Or.inl rfl) h4 rfl).trans (jsret_i at113_73 rfl))))
theorem at113_74 : jm_at 113 74 = some (.aload_n 0) := by decide +kernel
theorem at113_75 : jm_at 113 75 = some (.getfield 43) := by decide +kernel
theorem at113_78 : jm_at 113 78 = some (.getfield 225) := by decide +kernel
theorem at113_81 : jm_at 113 81 = some (.getfield 235) := by decide +kernel
theorem rv113g_235 : jm_rv 113 (.getfield 235) = (0, 4, 2, 0) := by decide +kernel
theorem at113_84 : jm_at 113 84 = some (.ireturn) := by decide +kernel
theorem u113_74 {S : Option (Nat × (Nat → Int32))} {H : jm_H} {Q : Option Value → jm_H → Prop} {r0 : Nat} {x1 x2 x3 x4 : Int32} (h0 : jm_tg H r0 = 12) (h1 : ¬ jm_R H r0 5 = 0) (h2 : jm_tg H (jm_R H r0 5) = 3) (h3 : ¬ jm_R H (jm_R H r0 5) 0 = 0) (h4 : jm_tg H (jm_R H (jm_R H r0 5) 0) = 5) : jm_w S 4 113 74 [.ref r0, .int x1, .int x2, .int x3, .int x4] [] H Q = Q (some (.int (jm_I H (jm_R H (jm_R H r0 5) 0) 2))) H := (js1 at113_74 rfl rfl rfl).trans ((jsgR (H := H) at113_75 rv113g_43 rfl h0 h1 rfl).trans ((jsgR (H := H) at113_78 rv113g_225 rfl h2 h3 rfl).trans ((jsgI (H := H) at113_81 rv113g_235 (Or.inl rfl) h4 rfl).trans (jsret_i at113_84 rfl))))
theorem at113_85 : jm_at 113 85 = some (.aload_n 0) := by decide +kernel
theorem at113_86 : jm_at 113 86 = some (.getfield 43) := by decide +kernel
theorem at113_89 : jm_at 113 89 = some (.getfield 225) := by decide +kernel
theorem at113_92 : jm_at 113 92 = some (.getfield 238) := by decide +kernel
theorem rv113g_238 : jm_rv 113 (.getfield 238) = (0, 4, 3, 0) := by decide +kernel
theorem at113_95 : jm_at 113 95 = some (.ireturn) := by decide +kernel
theorem u113_85 {S : Option (Nat × (Nat → Int32))} {H : jm_H} {Q : Option Value → jm_H → Prop} {r0 : Nat} {x1 x2 x3 x4 : Int32} (h0 : jm_tg H r0 = 12) (h1 : ¬ jm_R H r0 5 = 0) (h2 : jm_tg H (jm_R H r0 5) = 3) (h3 : ¬ jm_R H (jm_R H r0 5) 0 = 0) (h4 : jm_tg H (jm_R H (jm_R H r0 5) 0) = 5) : jm_w S 4 113 85 [.ref r0, .int x1, .int x2, .int x3, .int x4] [] H Q = Q (some (.int (jm_I H (jm_R H (jm_R H r0 5) 0) 3))) H := (js1 at113_85 rfl rfl rfl).trans ((jsgR (H := H) at113_86 rv113g_43 rfl h0 h1 rfl).trans ((jsgR (H := H) at113_89 rv113g_225 rfl h2 h3 rfl).trans ((jsgI (H := H) at113_92 rv113g_238 (Or.inl rfl) h4 rfl).trans (jsret_i at113_95 rfl))))
theorem at113_96 : jm_at 113 96 = some (.aload_n 0) := by decide +kernel
theorem at113_97 : jm_at 113 97 = some (.getfield 43) := by decide +kernel
theorem at113_100 : jm_at 113 100 = some (.getfield 225) := by decide +kernel
theorem at113_103 : jm_at 113 103 = some (.getfield 241) := by decide +kernel
theorem rv113g_241 : jm_rv 113 (.getfield 241) = (0, 4, 4, 0) := by decide +kernel
theorem at113_106 : jm_at 113 106 = some (.ireturn) := by decide +kernel
theorem u113_96 {S : Option (Nat × (Nat → Int32))} {H : jm_H} {Q : Option Value → jm_H → Prop} {r0 : Nat} {x1 x2 x3 x4 : Int32} (h0 : jm_tg H r0 = 12) (h1 : ¬ jm_R H r0 5 = 0) (h2 : jm_tg H (jm_R H r0 5) = 3) (h3 : ¬ jm_R H (jm_R H r0 5) 0 = 0) (h4 : jm_tg H (jm_R H (jm_R H r0 5) 0) = 5) : jm_w S 4 113 96 [.ref r0, .int x1, .int x2, .int x3, .int x4] [] H Q = Q (some (.int (jm_I H (jm_R H (jm_R H r0 5) 0) 4))) H := (js1 at113_96 rfl rfl rfl).trans ((jsgR (H := H) at113_97 rv113g_43 rfl h0 h1 rfl).trans ((jsgR (H := H) at113_100 rv113g_225 rfl h2 h3 rfl).trans ((jsgI (H := H) at113_103 rv113g_241 (Or.inl rfl) h4 rfl).trans (jsret_i at113_106 rfl))))
theorem at113_107 : jm_at 113 107 = some (.aload_n 0) := by decide +kernel
theorem at113_108 : jm_at 113 108 = some (.getfield 43) := by decide +kernel
theorem at113_111 : jm_at 113 111 = some (.getfield 244) := by decide +kernel
theorem rv113g_244 : jm_rv 113 (.getfield 244) = (0, 2, 3, 0) := by decide +kernel
theorem at113_114 : jm_at 113 114 = some (.l2i) := by decide +kernel
theorem at113_115 : jm_at 113 115 = some (.ireturn) := by decide +kernel
theorem u113_107 {S : Option (Nat × (Nat → Int32))} {H : jm_H} {Q : Option Value → jm_H → Prop} {r0 : Nat} {x1 x2 x3 x4 : Int32} (h0 : jm_tg H r0 = 12) (h1 : ¬ jm_R H r0 5 = 0) (h2 : jm_tg H (jm_R H r0 5) = 3) : jm_w S 4 113 107 [.ref r0, .int x1, .int x2, .int x3, .int x4] [] H Q = Q (some (.int (Int64.toInt32 (jm_L H (jm_R H r0 5) 3)))) H := (js1 at113_107 rfl rfl rfl).trans ((jsgR (H := H) at113_108 rv113g_43 rfl h0 h1 rfl).trans ((jsgL (H := H) at113_111 rv113g_244 rfl h2 rfl).trans ((js0 at113_114 rfl rfl rfl).trans (jsret_i at113_115 rfl))))
theorem at113_116 : jm_at 113 116 = some (.aload_n 0) := by decide +kernel
theorem at113_117 : jm_at 113 117 = some (.getfield 43) := by decide +kernel
theorem at113_120 : jm_at 113 120 = some (.getfield 248) := by decide +kernel
theorem rv113g_248 : jm_rv 113 (.getfield 248) = (0, 2, 4, 0) := by decide +kernel
theorem at113_123 : jm_at 113 123 = some (.ireturn) := by decide +kernel
theorem u113_116 {S : Option (Nat × (Nat → Int32))} {H : jm_H} {Q : Option Value → jm_H → Prop} {r0 : Nat} {x1 x2 x3 x4 : Int32} (h0 : jm_tg H r0 = 12) (h1 : ¬ jm_R H r0 5 = 0) (h2 : jm_tg H (jm_R H r0 5) = 3) : jm_w S 4 113 116 [.ref r0, .int x1, .int x2, .int x3, .int x4] [] H Q = Q (some (.int (jm_I H (jm_R H r0 5) 4))) H := (js1 at113_116 rfl rfl rfl).trans ((jsgR (H := H) at113_117 rv113g_43 rfl h0 h1 rfl).trans ((jsgI (H := H) at113_120 rv113g_248 (Or.inl rfl) h2 rfl).trans (jsret_i at113_123 rfl)))
theorem en113 {S : Option (Nat × (Nat → Int32))} {H : jm_H} {Q : Option Value → jm_H → Prop} {r0 : Nat} {x1 x2 x3 x4 : Int32} : jm_c S 113 [.ref r0, .int x1, .int x2, .int x3, .int x4] H Q = jm_w S 4 113 0 [.ref r0, .int x1, .int x2, .int x3, .int x4] [] H Q := rfl
theorem at114_0 : jm_at 114 0 = some (.iload_n 1) := by decide +kernel
theorem at114_1 : jm_at 114 1 = some (.iload_n 2) := by decide +kernel
theorem at114_2 : jm_at 114 2 = some (.iload_n 3) := by decide +kernel
theorem at114_3 : jm_at 114 3 = some (.iload 4) := by decide +kernel
theorem at114_5 : jm_at 114 5 = some (.invokestatic 251) := by decide +kernel
theorem rv114i_251 : jm_rv 114 (.invokestatic 251) = (1, 115, 0, 0) := by decide +kernel
theorem u114_0 {S : Option (Nat × (Nat → Int32))} {H : jm_H} {Q : Option Value → jm_H → Prop} {r0 : Nat} {x1 x2 x3 x4 : Int32} : jm_w S 4 114 0 [.ref r0, .int x1, .int x2, .int x3, .int x4] [] H Q = jm_c S 115 [.int x1, .int x2, .int x3, .int x4] H (fun v G => jm_w S 4 114 8 [.ref r0, .int x1, .int x2, .int x3, .int x4] (v.toList ++ []) G Q) := (js1 at114_0 rfl rfl rfl).trans ((js1 at114_1 rfl rfl rfl).trans ((js1 at114_2 rfl rfl rfl).trans ((js1 at114_3 rfl rfl rfl).trans (jscall (H := H) (as := [.int x1, .int x2, .int x3, .int x4]) (q := []) at114_5 rfl rv114i_251 (jscut rfl rfl rfl (Nat.le_of_ble_eq_true rfl)) rfl (Nat.le_of_ble_eq_true rfl) rfl rfl))))
theorem at114_8 : jm_at 114 8 = some (.ifCond .ne 6) := by decide +kernel
theorem u114_8 {S : Option (Nat × (Nat → Int32))} {H : jm_H} {Q : Option Value → jm_H → Prop} {r0 : Nat} {x1 x2 x3 x4 p0 : Int32} : jm_w S 4 114 8 [.ref r0, .int x1, .int x2, .int x3, .int x4] [.int p0] H Q = if ¬ p0 = 0 then jm_w S 4 114 14 [.ref r0, .int x1, .int x2, .int x3, .int x4] [] H Q else jm_w S 4 114 11 [.ref r0, .int x1, .int x2, .int x3, .int x4] [] H Q := jsif (P := ¬ p0 = 0) at114_8 rfl rfl
theorem at114_11 : jm_at 114 11 = some (.bipush (-2)) := by decide +kernel
theorem at114_13 : jm_at 114 13 = some (.ireturn) := by decide +kernel
theorem u114_11 {S : Option (Nat × (Nat → Int32))} {H : jm_H} {Q : Option Value → jm_H → Prop} {r0 : Nat} {x1 x2 x3 x4 : Int32} : jm_w S 4 114 11 [.ref r0, .int x1, .int x2, .int x3, .int x4] [] H Q = Q (some (.int (-2 : Int32))) H := (jscb at114_11 rfl rfl).trans (jsret_i at114_13 rfl)
theorem at114_14 : jm_at 114 14 = some (.iload_n 1) := by decide +kernel
theorem at114_15 : jm_at 114 15 = some (.iload_n 3) := by decide +kernel
theorem at114_16 : jm_at 114 16 = some (.invokestatic 200) := by decide +kernel
theorem rv114i_200 : jm_rv 114 (.invokestatic 200) = (1, 108, 0, 0) := by decide +kernel
theorem u114_14 {S : Option (Nat × (Nat → Int32))} {H : jm_H} {Q : Option Value → jm_H → Prop} {r0 : Nat} {x1 x2 x3 x4 : Int32} : jm_w S 4 114 14 [.ref r0, .int x1, .int x2, .int x3, .int x4] [] H Q = jm_c S 108 [.int x1, .int x3] H (fun v G => jm_w S 4 114 19 [.ref r0, .int x1, .int x2, .int x3, .int x4] (v.toList ++ []) G Q) := (js1 at114_14 rfl rfl rfl).trans ((js1 at114_15 rfl rfl rfl).trans (jscall (H := H) (as := [.int x1, .int x3]) (q := []) at114_16 rfl rv114i_200 (jscut rfl rfl rfl (Nat.le_of_ble_eq_true rfl)) rfl (Nat.le_of_ble_eq_true rfl) rfl rfl))
theorem at114_19 : jm_at 114 19 = some (.iload_n 1) := by decide +kernel
theorem at114_20 : jm_at 114 20 = some (.iload 4) := by decide +kernel
theorem at114_22 : jm_at 114 22 = some (.invokestatic 200) := by decide +kernel
theorem u114_19 {S : Option (Nat × (Nat → Int32))} {H : jm_H} {Q : Option Value → jm_H → Prop} {r0 : Nat} {x1 x2 x3 x4 p0 : Int32} : jm_w S 4 114 19 [.ref r0, .int x1, .int x2, .int x3, .int x4] [.int p0] H Q = jm_c S 108 [.int x1, .int x4] H (fun v G => jm_w S 4 114 25 [.ref r0, .int x1, .int x2, .int x3, .int x4] (v.toList ++ [.int p0]) G Q) := (js1 at114_19 rfl rfl rfl).trans ((js1 at114_20 rfl rfl rfl).trans (jscall (H := H) (as := [.int x1, .int x4]) (q := [.int p0]) at114_22 rfl rv114i_200 (jscut rfl rfl rfl (Nat.le_of_ble_eq_true rfl)) rfl (Nat.le_of_ble_eq_true rfl) rfl rfl))
theorem at114_25 : jm_at 114 25 = some (.invokestatic 255) := by decide +kernel
theorem rv114i_255 : jm_rv 114 (.invokestatic 255) = (1, 116, 0, 0) := by decide +kernel
theorem u114_25 {S : Option (Nat × (Nat → Int32))} {H : jm_H} {Q : Option Value → jm_H → Prop} {r0 : Nat} {x1 x2 x3 x4 p0 p1 : Int32} : jm_w S 4 114 25 [.ref r0, .int x1, .int x2, .int x3, .int x4] [.int p1, .int p0] H Q = jm_c S 116 [.int p0, .int p1] H (fun v G => jm_w S 4 114 28 [.ref r0, .int x1, .int x2, .int x3, .int x4] (v.toList ++ []) G Q) := jscall (H := H) (as := [.int p0, .int p1]) (q := []) at114_25 rfl rv114i_255 (jscut rfl rfl rfl (Nat.le_of_ble_eq_true rfl)) rfl (Nat.le_of_ble_eq_true rfl) rfl rfl
theorem at114_28 : jm_at 114 28 = some (.ireturn) := by decide +kernel
theorem u114_28 {S : Option (Nat × (Nat → Int32))} {H : jm_H} {Q : Option Value → jm_H → Prop} {r0 : Nat} {x1 x2 x3 x4 p0 : Int32} : jm_w S 4 114 28 [.ref r0, .int x1, .int x2, .int x3, .int x4] [.int p0] H Q = Q (some (.int p0)) H := jsret_i at114_28 rfl
theorem en114 {S : Option (Nat × (Nat → Int32))} {H : jm_H} {Q : Option Value → jm_H → Prop} {r0 : Nat} {x1 x2 x3 x4 : Int32} : jm_c S 114 [.ref r0, .int x1, .int x2, .int x3, .int x4] H Q = jm_w S 4 114 0 [.ref r0, .int x1, .int x2, .int x3, .int x4] [] H Q := rfl
theorem at117_0 : jm_at 117 0 = some (.iload_n 1) := by decide +kernel
theorem at117_1 : jm_at 117 1 = some (.iload_n 2) := by decide +kernel
theorem at117_2 : jm_at 117 2 = some (.iload_n 3) := by decide +kernel
theorem at117_3 : jm_at 117 3 = some (.iload 4) := by decide +kernel
theorem at117_5 : jm_at 117 5 = some (.invokestatic 251) := by decide +kernel
theorem rv117i_251 : jm_rv 117 (.invokestatic 251) = (1, 115, 0, 0) := by decide +kernel
theorem u117_0 {S : Option (Nat × (Nat → Int32))} {H : jm_H} {Q : Option Value → jm_H → Prop} {r0 : Nat} {x1 x2 x3 x4 : Int32} : jm_w S 4 117 0 [.ref r0, .int x1, .int x2, .int x3, .int x4] [] H Q = jm_c S 115 [.int x1, .int x2, .int x3, .int x4] H (fun v G => jm_w S 4 117 8 [.ref r0, .int x1, .int x2, .int x3, .int x4] (v.toList ++ []) G Q) := (js1 at117_0 rfl rfl rfl).trans ((js1 at117_1 rfl rfl rfl).trans ((js1 at117_2 rfl rfl rfl).trans ((js1 at117_3 rfl rfl rfl).trans (jscall (H := H) (as := [.int x1, .int x2, .int x3, .int x4]) (q := []) at117_5 rfl rv117i_251 (jscut rfl rfl rfl (Nat.le_of_ble_eq_true rfl)) rfl (Nat.le_of_ble_eq_true rfl) rfl rfl))))
theorem at117_8 : jm_at 117 8 = some (.ifCond .eq 20) := by decide +kernel
theorem u117_8 {S : Option (Nat × (Nat → Int32))} {H : jm_H} {Q : Option Value → jm_H → Prop} {r0 : Nat} {x1 x2 x3 x4 p0 : Int32} : jm_w S 4 117 8 [.ref r0, .int x1, .int x2, .int x3, .int x4] [.int p0] H Q = if p0 = 0 then jm_w S 4 117 28 [.ref r0, .int x1, .int x2, .int x3, .int x4] [] H Q else jm_w S 4 117 11 [.ref r0, .int x1, .int x2, .int x3, .int x4] [] H Q := jsif (P := p0 = 0) at117_8 rfl rfl
theorem at117_11 : jm_at 117 11 = some (.iload_n 1) := by decide +kernel
theorem at117_12 : jm_at 117 12 = some (.iload_n 3) := by decide +kernel
theorem at117_13 : jm_at 117 13 = some (.invokestatic 197) := by decide +kernel
theorem rv117i_197 : jm_rv 117 (.invokestatic 197) = (1, 69, 0, 0) := by decide +kernel
theorem u117_11 {S : Option (Nat × (Nat → Int32))} {H : jm_H} {Q : Option Value → jm_H → Prop} {r0 : Nat} {x1 x2 x3 x4 : Int32} : jm_w S 4 117 11 [.ref r0, .int x1, .int x2, .int x3, .int x4] [] H Q = jm_c S 69 [.int x1, .int x3] H (fun v G => jm_w S 4 117 16 [.ref r0, .int x1, .int x2, .int x3, .int x4] (v.toList ++ []) G Q) := (js1 at117_11 rfl rfl rfl).trans ((js1 at117_12 rfl rfl rfl).trans (jscall (H := H) (as := [.int x1, .int x3]) (q := []) at117_13 rfl rv117i_197 (jscut rfl rfl rfl (Nat.le_of_ble_eq_true rfl)) rfl (Nat.le_of_ble_eq_true rfl) rfl rfl))
theorem at117_16 : jm_at 117 16 = some (.ifCond .ne 12) := by decide +kernel
theorem u117_16 {S : Option (Nat × (Nat → Int32))} {H : jm_H} {Q : Option Value → jm_H → Prop} {r0 : Nat} {x1 x2 x3 x4 p0 : Int32} : jm_w S 4 117 16 [.ref r0, .int x1, .int x2, .int x3, .int x4] [.int p0] H Q = if ¬ p0 = 0 then jm_w S 4 117 28 [.ref r0, .int x1, .int x2, .int x3, .int x4] [] H Q else jm_w S 4 117 19 [.ref r0, .int x1, .int x2, .int x3, .int x4] [] H Q := jsif (P := ¬ p0 = 0) at117_16 rfl rfl
theorem at117_19 : jm_at 117 19 = some (.iload_n 1) := by decide +kernel
theorem at117_20 : jm_at 117 20 = some (.iload 4) := by decide +kernel
theorem at117_22 : jm_at 117 22 = some (.invokestatic 197) := by decide +kernel
theorem u117_19 {S : Option (Nat × (Nat → Int32))} {H : jm_H} {Q : Option Value → jm_H → Prop} {r0 : Nat} {x1 x2 x3 x4 : Int32} : jm_w S 4 117 19 [.ref r0, .int x1, .int x2, .int x3, .int x4] [] H Q = jm_c S 69 [.int x1, .int x4] H (fun v G => jm_w S 4 117 25 [.ref r0, .int x1, .int x2, .int x3, .int x4] (v.toList ++ []) G Q) := (js1 at117_19 rfl rfl rfl).trans ((js1 at117_20 rfl rfl rfl).trans (jscall (H := H) (as := [.int x1, .int x4]) (q := []) at117_22 rfl rv117i_197 (jscut rfl rfl rfl (Nat.le_of_ble_eq_true rfl)) rfl (Nat.le_of_ble_eq_true rfl) rfl rfl))
theorem at117_25 : jm_at 117 25 = some (.ifCond .eq 5) := by decide +kernel
theorem u117_25 {S : Option (Nat × (Nat → Int32))} {H : jm_H} {Q : Option Value → jm_H → Prop} {r0 : Nat} {x1 x2 x3 x4 p0 : Int32} : jm_w S 4 117 25 [.ref r0, .int x1, .int x2, .int x3, .int x4] [.int p0] H Q = if p0 = 0 then jm_w S 4 117 30 [.ref r0, .int x1, .int x2, .int x3, .int x4] [] H Q else jm_w S 4 117 28 [.ref r0, .int x1, .int x2, .int x3, .int x4] [] H Q := jsif (P := p0 = 0) at117_25 rfl rfl
theorem at117_28 : jm_at 117 28 = some (.iconst (-1)) := by decide +kernel
theorem at117_29 : jm_at 117 29 = some (.ireturn) := by decide +kernel
theorem u117_28 {S : Option (Nat × (Nat → Int32))} {H : jm_H} {Q : Option Value → jm_H → Prop} {r0 : Nat} {x1 x2 x3 x4 : Int32} : jm_w S 4 117 28 [.ref r0, .int x1, .int x2, .int x3, .int x4] [] H Q = Q (some (.int (-1 : Int32))) H := (jsci at117_28 rfl rfl).trans (jsret_i at117_29 rfl)
theorem at117_30 : jm_at 117 30 = some (.iconst 0) := by decide +kernel
theorem at117_31 : jm_at 117 31 = some (.iload_n 1) := by decide +kernel
theorem at117_32 : jm_at 117 32 = some (.iload 4) := by decide +kernel
theorem at117_34 : jm_at 117 34 = some (.invokestatic 200) := by decide +kernel
theorem rv117i_200 : jm_rv 117 (.invokestatic 200) = (1, 108, 0, 0) := by decide +kernel
theorem u117_30 {S : Option (Nat × (Nat → Int32))} {H : jm_H} {Q : Option Value → jm_H → Prop} {r0 : Nat} {x1 x2 x3 x4 : Int32} : jm_w S 4 117 30 [.ref r0, .int x1, .int x2, .int x3, .int x4] [] H Q = jm_c S 108 [.int x1, .int x4] H (fun v G => jm_w S 4 117 37 [.ref r0, .int x1, .int x2, .int x3, .int x4] (v.toList ++ [.int (0 : Int32)]) G Q) := (jsci at117_30 rfl rfl).trans ((js1 at117_31 rfl rfl rfl).trans ((js1 at117_32 rfl rfl rfl).trans (jscall (H := H) (as := [.int x1, .int x4]) (q := [.int (0 : Int32)]) at117_34 rfl rv117i_200 (jscut rfl rfl rfl (Nat.le_of_ble_eq_true rfl)) rfl (Nat.le_of_ble_eq_true rfl) rfl rfl)))
theorem at117_37 : jm_at 117 37 = some (.iload_n 1) := by decide +kernel
theorem at117_38 : jm_at 117 38 = some (.iload_n 3) := by decide +kernel
theorem at117_39 : jm_at 117 39 = some (.invokestatic 200) := by decide +kernel
theorem u117_37 {S : Option (Nat × (Nat → Int32))} {H : jm_H} {Q : Option Value → jm_H → Prop} {r0 : Nat} {x1 x2 x3 x4 p0 p1 : Int32} : jm_w S 4 117 37 [.ref r0, .int x1, .int x2, .int x3, .int x4] [.int p1, .int p0] H Q = jm_c S 108 [.int x1, .int x3] H (fun v G => jm_w S 4 117 42 [.ref r0, .int x1, .int x2, .int x3, .int x4] (v.toList ++ [.int p1, .int p0]) G Q) := (js1 at117_37 rfl rfl rfl).trans ((js1 at117_38 rfl rfl rfl).trans (jscall (H := H) (as := [.int x1, .int x3]) (q := [.int p1, .int p0]) at117_39 rfl rv117i_200 (jscut rfl rfl rfl (Nat.le_of_ble_eq_true rfl)) rfl (Nat.le_of_ble_eq_true rfl) rfl rfl))
theorem at117_42 : jm_at 117 42 = some (.isub) := by decide +kernel
theorem at117_43 : jm_at 117 43 = some (.iconst 1) := by decide +kernel
theorem at117_44 : jm_at 117 44 = some (.iadd) := by decide +kernel
theorem at117_45 : jm_at 117 45 = some (.invokestatic 258) := by decide +kernel
theorem rv117i_258 : jm_rv 117 (.invokestatic 258) = (1, 74, 0, 0) := by decide +kernel
theorem u117_42 {S : Option (Nat × (Nat → Int32))} {H : jm_H} {Q : Option Value → jm_H → Prop} {r0 : Nat} {x1 x2 x3 x4 p0 p1 p2 : Int32} : jm_w S 4 117 42 [.ref r0, .int x1, .int x2, .int x3, .int x4] [.int p2, .int p1, .int p0] H Q = jm_c S 74 [.int p0, .int ((p1 - p2) + (1 : Int32))] H (fun v G => jm_w S 4 117 48 [.ref r0, .int x1, .int x2, .int x3, .int x4] (v.toList ++ []) G Q) := (js0 at117_42 rfl rfl rfl).trans ((jsci at117_43 rfl rfl).trans ((js0 at117_44 rfl rfl rfl).trans (jscall (H := H) (as := [.int p0, .int ((p1 - p2) + (1 : Int32))]) (q := []) at117_45 rfl rv117i_258 (jscut rfl rfl rfl (Nat.le_of_ble_eq_true rfl)) rfl (Nat.le_of_ble_eq_true rfl) rfl rfl)))
theorem at117_48 : jm_at 117 48 = some (.ireturn) := by decide +kernel
theorem u117_48 {S : Option (Nat × (Nat → Int32))} {H : jm_H} {Q : Option Value → jm_H → Prop} {r0 : Nat} {x1 x2 x3 x4 p0 : Int32} : jm_w S 4 117 48 [.ref r0, .int x1, .int x2, .int x3, .int x4] [.int p0] H Q = Q (some (.int p0)) H := jsret_i at117_48 rfl
theorem en117 {S : Option (Nat × (Nat → Int32))} {H : jm_H} {Q : Option Value → jm_H → Prop} {r0 : Nat} {x1 x2 x3 x4 : Int32} : jm_c S 117 [.ref r0, .int x1, .int x2, .int x3, .int x4] H Q = jm_w S 4 117 0 [.ref r0, .int x1, .int x2, .int x3, .int x4] [] H Q := rfl
theorem at118_0 : jm_at 118 0 = some (.iload_n 1) := by decide +kernel
theorem at118_1 : jm_at 118 1 = some (.iload_n 2) := by decide +kernel
theorem at118_2 : jm_at 118 2 = some (.iload_n 3) := by decide +kernel
theorem at118_3 : jm_at 118 3 = some (.invokestatic 152) := by decide +kernel
theorem rv118i_152 : jm_rv 118 (.invokestatic 152) = (1, 99, 0, 0) := by decide +kernel
theorem u118_0 {S : Option (Nat × (Nat → Int32))} {H : jm_H} {Q : Option Value → jm_H → Prop} {r0 : Nat} {x1 x2 x3 x4 : Int32} : jm_w S 4 118 0 [.ref r0, .int x1, .int x2, .int x3, .int x4] [] H Q = jm_c S 99 [.int x1, .int x2, .int x3] H (fun v G => jm_w S 4 118 6 [.ref r0, .int x1, .int x2, .int x3, .int x4] (v.toList ++ []) G Q) := (js1 at118_0 rfl rfl rfl).trans ((js1 at118_1 rfl rfl rfl).trans ((js1 at118_2 rfl rfl rfl).trans (jscall (H := H) (as := [.int x1, .int x2, .int x3]) (q := []) at118_3 rfl rv118i_152 (jscut rfl rfl rfl (Nat.le_of_ble_eq_true rfl)) rfl (Nat.le_of_ble_eq_true rfl) rfl rfl)))
theorem at118_6 : jm_at 118 6 = some (.ifCond .ne 5) := by decide +kernel
theorem u118_6 {S : Option (Nat × (Nat → Int32))} {H : jm_H} {Q : Option Value → jm_H → Prop} {r0 : Nat} {x1 x2 x3 x4 p0 : Int32} : jm_w S 4 118 6 [.ref r0, .int x1, .int x2, .int x3, .int x4] [.int p0] H Q = if ¬ p0 = 0 then jm_w S 4 118 11 [.ref r0, .int x1, .int x2, .int x3, .int x4] [] H Q else jm_w S 4 118 9 [.ref r0, .int x1, .int x2, .int x3, .int x4] [] H Q := jsif (P := ¬ p0 = 0) at118_6 rfl rfl
theorem at118_9 : jm_at 118 9 = some (.iconst (-1)) := by decide +kernel
theorem at118_10 : jm_at 118 10 = some (.ireturn) := by decide +kernel
theorem u118_9 {S : Option (Nat × (Nat → Int32))} {H : jm_H} {Q : Option Value → jm_H → Prop} {r0 : Nat} {x1 x2 x3 x4 : Int32} : jm_w S 4 118 9 [.ref r0, .int x1, .int x2, .int x3, .int x4] [] H Q = Q (some (.int (-1 : Int32))) H := (jsci at118_9 rfl rfl).trans (jsret_i at118_10 rfl)
theorem at118_11 : jm_at 118 11 = some (.aload_n 0) := by decide +kernel
theorem at118_12 : jm_at 118 12 = some (.getfield 43) := by decide +kernel
theorem rv118g_43 : jm_rv 118 (.getfield 43) = (0, 11, 5, 0) := by decide +kernel
theorem at118_15 : jm_at 118 15 = some (.iload_n 1) := by decide +kernel
theorem at118_16 : jm_at 118 16 = some (.iload_n 2) := by decide +kernel
theorem at118_17 : jm_at 118 17 = some (.iload_n 3) := by decide +kernel
theorem at118_18 : jm_at 118 18 = some (.invokevirtual 156) := by decide +kernel
theorem rv118i_156 : jm_rv 118 (.invokevirtual 156) = (2, 68, 0, 0) := by decide +kernel
theorem u118_11 {S : Option (Nat × (Nat → Int32))} {H : jm_H} {Q : Option Value → jm_H → Prop} {r0 : Nat} {x1 x2 x3 x4 : Int32} (h0 : jm_tg H r0 = 12) (h1 : ¬ jm_R H r0 5 = 0) (h2 : jm_tg H (jm_R H r0 5) = 3) : jm_w S 4 118 11 [.ref r0, .int x1, .int x2, .int x3, .int x4] [] H Q = jm_c S 68 [.ref (jm_R H r0 5), .int x1, .int x2, .int x3] H (fun v G => jm_w S 4 118 21 [.ref r0, .int x1, .int x2, .int x3, .int x4] (v.toList ++ []) G Q) := (js1 at118_11 rfl rfl rfl).trans ((jsgR (H := H) at118_12 rv118g_43 rfl h0 h1 rfl).trans ((js1 at118_15 rfl rfl rfl).trans ((js1 at118_16 rfl rfl rfl).trans ((js1 at118_17 rfl rfl rfl).trans (jscall (H := H) (as := [.ref (jm_R H r0 5), .int x1, .int x2, .int x3]) (q := []) at118_18 rfl rv118i_156 (jscutV rfl rfl rfl (Nat.le_of_ble_eq_true rfl) rfl h2) rfl (Nat.le_of_ble_eq_true rfl) rfl rfl)))))
theorem at118_21 : jm_at 118 21 = some (.aload_n 0) := by decide +kernel
theorem at118_22 : jm_at 118 22 = some (.getfield 36) := by decide +kernel
theorem rv118g_36 : jm_rv 118 (.getfield 36) = (0, 11, 4, 0) := by decide +kernel
theorem at118_25 : jm_at 118 25 = some (.aload_n 0) := by decide +kernel
theorem at118_26 : jm_at 118 26 = some (.getfield 43) := by decide +kernel
theorem at118_29 : jm_at 118 29 = some (.invokevirtual 261) := by decide +kernel
theorem rv118i_261 : jm_rv 118 (.invokevirtual 261) = (2, 119, 0, 0) := by decide +kernel
theorem u118_21 {S : Option (Nat × (Nat → Int32))} {H : jm_H} {Q : Option Value → jm_H → Prop} {r0 : Nat} {x1 x2 x3 x4 : Int32} (h0 : jm_tg H r0 = 12) (h1 : ¬ jm_R H r0 4 = 0) (h2 : ¬ jm_R H r0 5 = 0) (h3 : jm_tg H (jm_R H r0 4) = 1) : jm_w S 4 118 21 [.ref r0, .int x1, .int x2, .int x3, .int x4] [] H Q = jm_c S 119 [.ref (jm_R H r0 4), .ref (jm_R H r0 5)] H (fun v G => jm_w S 4 118 32 [.ref r0, .int x1, .int x2, .int x3, .int x4] (v.toList ++ []) G Q) := (js1 at118_21 rfl rfl rfl).trans ((jsgR (H := H) at118_22 rv118g_36 rfl h0 h1 rfl).trans ((js1 at118_25 rfl rfl rfl).trans ((jsgR (H := H) at118_26 rv118g_43 rfl h0 h2 rfl).trans (jscall (H := H) (as := [.ref (jm_R H r0 4), .ref (jm_R H r0 5)]) (q := []) at118_29 rfl rv118i_261 (jscutV rfl rfl rfl (Nat.le_of_ble_eq_true rfl) rfl h3) rfl (Nat.le_of_ble_eq_true rfl) rfl rfl))))
theorem at118_32 : jm_at 118 32 = some (.iload 4) := by decide +kernel
theorem at118_34 : jm_at 118 34 = some (.iconst (-1)) := by decide +kernel
theorem at118_35 : jm_at 118 35 = some (.if_icmp .ne 13) := by decide +kernel
theorem u118_32 {S : Option (Nat × (Nat → Int32))} {H : jm_H} {Q : Option Value → jm_H → Prop} {r0 : Nat} {x1 x2 x3 x4 : Int32} : jm_w S 4 118 32 [.ref r0, .int x1, .int x2, .int x3, .int x4] [] H Q = if ¬ x4 = (-1 : Int32) then jm_w S 4 118 48 [.ref r0, .int x1, .int x2, .int x3, .int x4] [] H Q else jm_w S 4 118 38 [.ref r0, .int x1, .int x2, .int x3, .int x4] [] H Q := (js1 at118_32 rfl rfl rfl).trans ((jsci at118_34 rfl rfl).trans (jsif (P := ¬ x4 = (-1 : Int32)) at118_35 rfl rfl))
theorem at118_38 : jm_at 118 38 = some (.aload_n 0) := by decide +kernel
theorem at118_39 : jm_at 118 39 = some (.getfield 36) := by decide +kernel
theorem at118_42 : jm_at 118 42 = some (.getfield 265) := by decide +kernel
theorem rv118g_265 : jm_rv 118 (.getfield 265) = (0, 0, 1, 0) := by decide +kernel
theorem at118_45 : jm_at 118 45 = some (.goto 12) := by decide +kernel
theorem u118_38 {S : Option (Nat × (Nat → Int32))} {H : jm_H} {Q : Option Value → jm_H → Prop} {r0 : Nat} {x1 x2 x3 x4 : Int32} (h0 : jm_tg H r0 = 12) (h1 : ¬ jm_R H r0 4 = 0) (h2 : jm_tg H (jm_R H r0 4) = 1) : jm_w S 4 118 38 [.ref r0, .int x1, .int x2, .int x3, .int x4] [] H Q = jm_w S 4 118 57 [.ref r0, .int x1, .int x2, .int x3, .int x4] [.int (jm_I H (jm_R H r0 4) 1)] H Q := (js1 at118_38 rfl rfl rfl).trans ((jsgR (H := H) at118_39 rv118g_36 rfl h0 h1 rfl).trans ((jsgI (H := H) at118_42 rv118g_265 (Or.inl rfl) h2 rfl).trans (js2 at118_45 rfl rfl)))
theorem at118_48 : jm_at 118 48 = some (.aload_n 0) := by decide +kernel
theorem at118_49 : jm_at 118 49 = some (.getfield 36) := by decide +kernel
theorem at118_52 : jm_at 118 52 = some (.iload 4) := by decide +kernel
theorem at118_54 : jm_at 118 54 = some (.invokevirtual 266) := by decide +kernel
theorem rv118i_266 : jm_rv 118 (.invokevirtual 266) = (2, 122, 0, 0) := by decide +kernel
theorem u118_48 {S : Option (Nat × (Nat → Int32))} {H : jm_H} {Q : Option Value → jm_H → Prop} {r0 : Nat} {x1 x2 x3 x4 : Int32} (h0 : jm_tg H r0 = 12) (h1 : ¬ jm_R H r0 4 = 0) (h2 : jm_tg H (jm_R H r0 4) = 1) : jm_w S 4 118 48 [.ref r0, .int x1, .int x2, .int x3, .int x4] [] H Q = jm_c S 122 [.ref (jm_R H r0 4), .int x4] H (fun v G => jm_w S 4 118 57 [.ref r0, .int x1, .int x2, .int x3, .int x4] (v.toList ++ []) G Q) := (js1 at118_48 rfl rfl rfl).trans ((jsgR (H := H) at118_49 rv118g_36 rfl h0 h1 rfl).trans ((js1 at118_52 rfl rfl rfl).trans (jscall (H := H) (as := [.ref (jm_R H r0 4), .int x4]) (q := []) at118_54 rfl rv118i_266 (jscutV rfl rfl rfl (Nat.le_of_ble_eq_true rfl) rfl h2) rfl (Nat.le_of_ble_eq_true rfl) rfl rfl)))
theorem at118_57 : jm_at 118 57 = some (.ireturn) := by decide +kernel
theorem u118_57 {S : Option (Nat × (Nat → Int32))} {H : jm_H} {Q : Option Value → jm_H → Prop} {r0 : Nat} {x1 x2 x3 x4 p0 : Int32} : jm_w S 4 118 57 [.ref r0, .int x1, .int x2, .int x3, .int x4] [.int p0] H Q = Q (some (.int p0)) H := jsret_i at118_57 rfl
theorem en118 {S : Option (Nat × (Nat → Int32))} {H : jm_H} {Q : Option Value → jm_H → Prop} {r0 : Nat} {x1 x2 x3 x4 : Int32} : jm_c S 118 [.ref r0, .int x1, .int x2, .int x3, .int x4] H Q = jm_w S 4 118 0 [.ref r0, .int x1, .int x2, .int x3, .int x4] [] H Q := rfl
theorem at123_0 : jm_at 123 0 = some (.iload_n 1) := by decide +kernel
theorem at123_1 : jm_at 123 1 = some (.iload_n 2) := by decide +kernel
theorem at123_2 : jm_at 123 2 = some (.iload_n 3) := by decide +kernel
theorem at123_3 : jm_at 123 3 = some (.invokestatic 152) := by decide +kernel
theorem rv123i_152 : jm_rv 123 (.invokestatic 152) = (1, 99, 0, 0) := by decide +kernel
theorem u123_0 {S : Option (Nat × (Nat → Int32))} {H : jm_H} {Q : Option Value → jm_H → Prop} {r0 : Nat} {x1 x2 x3 x4 x5 : Int32} : jm_w S 6 123 0 [.ref r0, .int x1, .int x2, .int x3, .int x4, .int x5, .null] [] H Q = jm_c S 99 [.int x1, .int x2, .int x3] H (fun v G => jm_w S 6 123 6 [.ref r0, .int x1, .int x2, .int x3, .int x4, .int x5, .null] (v.toList ++ []) G Q) := (js1 at123_0 rfl rfl rfl).trans ((js1 at123_1 rfl rfl rfl).trans ((js1 at123_2 rfl rfl rfl).trans (jscall (H := H) (as := [.int x1, .int x2, .int x3]) (q := []) at123_3 rfl rv123i_152 (jscut rfl rfl rfl (Nat.le_of_ble_eq_true rfl)) rfl (Nat.le_of_ble_eq_true rfl) rfl rfl)))
theorem at123_6 : jm_at 123 6 = some (.ifCond .eq 36) := by decide +kernel
theorem u123_6 {S : Option (Nat × (Nat → Int32))} {H : jm_H} {Q : Option Value → jm_H → Prop} {r0 : Nat} {x1 x2 x3 x4 x5 p0 : Int32} : jm_w S 6 123 6 [.ref r0, .int x1, .int x2, .int x3, .int x4, .int x5, .null] [.int p0] H Q = if p0 = 0 then jm_w S 6 123 42 [.ref r0, .int x1, .int x2, .int x3, .int x4, .int x5, .null] [] H Q else jm_w S 6 123 9 [.ref r0, .int x1, .int x2, .int x3, .int x4, .int x5, .null] [] H Q := jsif (P := p0 = 0) at123_6 rfl rfl
theorem at123_9 : jm_at 123 9 = some (.iload_n 1) := by decide +kernel
theorem at123_10 : jm_at 123 10 = some (.iload_n 3) := by decide +kernel
theorem at123_11 : jm_at 123 11 = some (.invokestatic 197) := by decide +kernel
theorem rv123i_197 : jm_rv 123 (.invokestatic 197) = (1, 69, 0, 0) := by decide +kernel
theorem u123_9 {S : Option (Nat × (Nat → Int32))} {H : jm_H} {Q : Option Value → jm_H → Prop} {r0 : Nat} {x1 x2 x3 x4 x5 : Int32} : jm_w S 6 123 9 [.ref r0, .int x1, .int x2, .int x3, .int x4, .int x5, .null] [] H Q = jm_c S 69 [.int x1, .int x3] H (fun v G => jm_w S 6 123 14 [.ref r0, .int x1, .int x2, .int x3, .int x4, .int x5, .null] (v.toList ++ []) G Q) := (js1 at123_9 rfl rfl rfl).trans ((js1 at123_10 rfl rfl rfl).trans (jscall (H := H) (as := [.int x1, .int x3]) (q := []) at123_11 rfl rv123i_197 (jscut rfl rfl rfl (Nat.le_of_ble_eq_true rfl)) rfl (Nat.le_of_ble_eq_true rfl) rfl rfl))
theorem at123_14 : jm_at 123 14 = some (.ifCond .ne 28) := by decide +kernel
theorem u123_14 {S : Option (Nat × (Nat → Int32))} {H : jm_H} {Q : Option Value → jm_H → Prop} {r0 : Nat} {x1 x2 x3 x4 x5 p0 : Int32} : jm_w S 6 123 14 [.ref r0, .int x1, .int x2, .int x3, .int x4, .int x5, .null] [.int p0] H Q = if ¬ p0 = 0 then jm_w S 6 123 42 [.ref r0, .int x1, .int x2, .int x3, .int x4, .int x5, .null] [] H Q else jm_w S 6 123 17 [.ref r0, .int x1, .int x2, .int x3, .int x4, .int x5, .null] [] H Q := jsif (P := ¬ p0 = 0) at123_14 rfl rfl
theorem at123_17 : jm_at 123 17 = some (.iload 4) := by decide +kernel
theorem at123_19 : jm_at 123 19 = some (.iconst 1) := by decide +kernel
theorem at123_20 : jm_at 123 20 = some (.if_icmp .lt 22) := by decide +kernel
theorem u123_17 {S : Option (Nat × (Nat → Int32))} {H : jm_H} {Q : Option Value → jm_H → Prop} {r0 : Nat} {x1 x2 x3 x4 x5 : Int32} : jm_w S 6 123 17 [.ref r0, .int x1, .int x2, .int x3, .int x4, .int x5, .null] [] H Q = if x4 < (1 : Int32) then jm_w S 6 123 42 [.ref r0, .int x1, .int x2, .int x3, .int x4, .int x5, .null] [] H Q else jm_w S 6 123 23 [.ref r0, .int x1, .int x2, .int x3, .int x4, .int x5, .null] [] H Q := (js1 at123_17 rfl rfl rfl).trans ((jsci at123_19 rfl rfl).trans (jsif (P := x4 < (1 : Int32)) at123_20 rfl rfl))
theorem at123_23 : jm_at 123 23 = some (.iload 4) := by decide +kernel
theorem at123_25 : jm_at 123 25 = some (.sipush 1000) := by decide +kernel
theorem at123_28 : jm_at 123 28 = some (.if_icmp .gt 14) := by decide +kernel
theorem u123_23 {S : Option (Nat × (Nat → Int32))} {H : jm_H} {Q : Option Value → jm_H → Prop} {r0 : Nat} {x1 x2 x3 x4 x5 : Int32} : jm_w S 6 123 23 [.ref r0, .int x1, .int x2, .int x3, .int x4, .int x5, .null] [] H Q = if (1000 : Int32) < x4 then jm_w S 6 123 42 [.ref r0, .int x1, .int x2, .int x3, .int x4, .int x5, .null] [] H Q else jm_w S 6 123 31 [.ref r0, .int x1, .int x2, .int x3, .int x4, .int x5, .null] [] H Q := (js1 at123_23 rfl rfl rfl).trans ((jscs at123_25 rfl rfl).trans (jsif (P := (1000 : Int32) < x4) at123_28 rfl rfl))
theorem at123_31 : jm_at 123 31 = some (.iload 5) := by decide +kernel
theorem at123_33 : jm_at 123 33 = some (.ifCond .lt 9) := by decide +kernel
theorem u123_31 {S : Option (Nat × (Nat → Int32))} {H : jm_H} {Q : Option Value → jm_H → Prop} {r0 : Nat} {x1 x2 x3 x4 x5 : Int32} : jm_w S 6 123 31 [.ref r0, .int x1, .int x2, .int x3, .int x4, .int x5, .null] [] H Q = if x5 < 0 then jm_w S 6 123 42 [.ref r0, .int x1, .int x2, .int x3, .int x4, .int x5, .null] [] H Q else jm_w S 6 123 36 [.ref r0, .int x1, .int x2, .int x3, .int x4, .int x5, .null] [] H Q := (js1 at123_31 rfl rfl rfl).trans (jsif (P := x5 < 0) at123_33 rfl rfl)
theorem at123_36 : jm_at 123 36 = some (.iload 5) := by decide +kernel
theorem at123_38 : jm_at 123 38 = some (.iconst 1) := by decide +kernel
theorem at123_39 : jm_at 123 39 = some (.if_icmp .le 7) := by decide +kernel
theorem u123_36 {S : Option (Nat × (Nat → Int32))} {H : jm_H} {Q : Option Value → jm_H → Prop} {r0 : Nat} {x1 x2 x3 x4 x5 : Int32} : jm_w S 6 123 36 [.ref r0, .int x1, .int x2, .int x3, .int x4, .int x5, .null] [] H Q = if x5 ≤ (1 : Int32) then jm_w S 6 123 46 [.ref r0, .int x1, .int x2, .int x3, .int x4, .int x5, .null] [] H Q else jm_w S 6 123 42 [.ref r0, .int x1, .int x2, .int x3, .int x4, .int x5, .null] [] H Q := (js1 at123_36 rfl rfl rfl).trans ((jsci at123_38 rfl rfl).trans (jsif (P := x5 ≤ (1 : Int32)) at123_39 rfl rfl))
theorem at123_42 : jm_at 123 42 = some (.ldc2_w 269) := by decide +kernel
theorem rv123l_269 : jm_rv 123 (.ldc2_w 269) = (9, 0, 0, (-1000000000000000)) := by decide +kernel
theorem at123_45 : jm_at 123 45 = some (.lreturn) := by decide +kernel
theorem u123_42 {S : Option (Nat × (Nat → Int32))} {H : jm_H} {Q : Option Value → jm_H → Prop} {r0 : Nat} {x1 x2 x3 x4 x5 : Int32} : jm_w S 6 123 42 [.ref r0, .int x1, .int x2, .int x3, .int x4, .int x5, .null] [] H Q = Q (some (.long (-1000000000000000 : Int64))) H := (jsk2 at123_42 rv123l_269 rfl rfl).trans (jsret_l at123_45 rfl)
theorem at123_46 : jm_at 123 46 = some (.aload_n 0) := by decide +kernel
theorem at123_47 : jm_at 123 47 = some (.getfield 43) := by decide +kernel
theorem rv123g_43 : jm_rv 123 (.getfield 43) = (0, 11, 5, 0) := by decide +kernel
theorem at123_50 : jm_at 123 50 = some (.iload_n 1) := by decide +kernel
theorem at123_51 : jm_at 123 51 = some (.iload_n 2) := by decide +kernel
theorem at123_52 : jm_at 123 52 = some (.iload_n 3) := by decide +kernel
theorem at123_53 : jm_at 123 53 = some (.invokevirtual 156) := by decide +kernel
theorem rv123i_156 : jm_rv 123 (.invokevirtual 156) = (2, 68, 0, 0) := by decide +kernel
theorem u123_46 {S : Option (Nat × (Nat → Int32))} {H : jm_H} {Q : Option Value → jm_H → Prop} {r0 : Nat} {x1 x2 x3 x4 x5 : Int32} (h0 : jm_tg H r0 = 12) (h1 : ¬ jm_R H r0 5 = 0) (h2 : jm_tg H (jm_R H r0 5) = 3) : jm_w S 6 123 46 [.ref r0, .int x1, .int x2, .int x3, .int x4, .int x5, .null] [] H Q = jm_c S 68 [.ref (jm_R H r0 5), .int x1, .int x2, .int x3] H (fun v G => jm_w S 6 123 56 [.ref r0, .int x1, .int x2, .int x3, .int x4, .int x5, .null] (v.toList ++ []) G Q) := (js1 at123_46 rfl rfl rfl).trans ((jsgR (H := H) at123_47 rv123g_43 rfl h0 h1 rfl).trans ((js1 at123_50 rfl rfl rfl).trans ((js1 at123_51 rfl rfl rfl).trans ((js1 at123_52 rfl rfl rfl).trans (jscall (H := H) (as := [.ref (jm_R H r0 5), .int x1, .int x2, .int x3]) (q := []) at123_53 rfl rv123i_156 (jscutV rfl rfl rfl (Nat.le_of_ble_eq_true rfl) rfl h2) rfl (Nat.le_of_ble_eq_true rfl) rfl rfl)))))
theorem at123_56 : jm_at 123 56 = some (.aload_n 0) := by decide +kernel
theorem at123_57 : jm_at 123 57 = some (.getfield 43) := by decide +kernel
theorem at123_60 : jm_at 123 60 = some (.iload 4) := by decide +kernel
theorem at123_62 : jm_at 123 62 = some (.invokevirtual 271) := by decide +kernel
theorem rv123i_271 : jm_rv 123 (.invokevirtual 271) = (2, 124, 0, 0) := by decide +kernel
theorem u123_56 {S : Option (Nat × (Nat → Int32))} {H : jm_H} {Q : Option Value → jm_H → Prop} {r0 : Nat} {x1 x2 x3 x4 x5 : Int32} (h0 : jm_tg H r0 = 12) (h1 : ¬ jm_R H r0 5 = 0) (h2 : jm_tg H (jm_R H r0 5) = 3) : jm_w S 6 123 56 [.ref r0, .int x1, .int x2, .int x3, .int x4, .int x5, .null] [] H Q = jm_c S 124 [.ref (jm_R H r0 5), .int x4] H (fun v G => jm_w S 6 123 65 [.ref r0, .int x1, .int x2, .int x3, .int x4, .int x5, .null] (v.toList ++ []) G Q) := (js1 at123_56 rfl rfl rfl).trans ((jsgR (H := H) at123_57 rv123g_43 rfl h0 h1 rfl).trans ((js1 at123_60 rfl rfl rfl).trans (jscall (H := H) (as := [.ref (jm_R H r0 5), .int x4]) (q := []) at123_62 rfl rv123i_271 (jscutV rfl rfl rfl (Nat.le_of_ble_eq_true rfl) rfl h2) rfl (Nat.le_of_ble_eq_true rfl) rfl rfl)))
theorem at123_65 : jm_at 123 65 = some (.istore 6) := by decide +kernel
theorem at123_67 : jm_at 123 67 = some (.iload 5) := by decide +kernel
theorem at123_69 : jm_at 123 69 = some (.iconst 1) := by decide +kernel
theorem at123_70 : jm_at 123 70 = some (.if_icmp .ne 9) := by decide +kernel
theorem u123_65 {S : Option (Nat × (Nat → Int32))} {H : jm_H} {Q : Option Value → jm_H → Prop} {r0 : Nat} {x1 x2 x3 x4 x5 p0 : Int32} : jm_w S 6 123 65 [.ref r0, .int x1, .int x2, .int x3, .int x4, .int x5, .null] [.int p0] H Q = if ¬ x5 = (1 : Int32) then jm_w S 6 123 79 [.ref r0, .int x1, .int x2, .int x3, .int x4, .int x5, .int p0] [] H Q else jm_w S 6 123 73 [.ref r0, .int x1, .int x2, .int x3, .int x4, .int x5, .int p0] [] H Q := (js1 at123_65 rfl rfl rfl).trans ((js1 at123_67 rfl rfl rfl).trans ((jsci at123_69 rfl rfl).trans (jsif (P := ¬ x5 = (1 : Int32)) at123_70 rfl rfl)))
theorem at123_73 : jm_at 123 73 = some (.iload 6) := by decide +kernel
theorem at123_75 : jm_at 123 75 = some (.i2l) := by decide +kernel
theorem at123_76 : jm_at 123 76 = some (.goto 12) := by decide +kernel
theorem u123_73 {S : Option (Nat × (Nat → Int32))} {H : jm_H} {Q : Option Value → jm_H → Prop} {r0 : Nat} {x1 x2 x3 x4 x5 x6 : Int32} : jm_w S 6 123 73 [.ref r0, .int x1, .int x2, .int x3, .int x4, .int x5, .int x6] [] H Q = jm_w S 6 123 88 [.ref r0, .int x1, .int x2, .int x3, .int x4, .int x5, .int x6] [.long (Int32.toInt64 x6)] H Q := (js1 at123_73 rfl rfl rfl).trans ((js0 at123_75 rfl rfl rfl).trans (js2 at123_76 rfl rfl))
theorem at123_79 : jm_at 123 79 = some (.aload_n 0) := by decide +kernel
theorem at123_80 : jm_at 123 80 = some (.getfield 43) := by decide +kernel
theorem at123_83 : jm_at 123 83 = some (.iload 6) := by decide +kernel
theorem at123_85 : jm_at 123 85 = some (.invokevirtual 274) := by decide +kernel
theorem rv123i_274 : jm_rv 123 (.invokevirtual 274) = (2, 127, 0, 0) := by decide +kernel
theorem u123_79 {S : Option (Nat × (Nat → Int32))} {H : jm_H} {Q : Option Value → jm_H → Prop} {r0 : Nat} {x1 x2 x3 x4 x5 x6 : Int32} (h0 : jm_tg H r0 = 12) (h1 : ¬ jm_R H r0 5 = 0) (h2 : jm_tg H (jm_R H r0 5) = 3) : jm_w S 6 123 79 [.ref r0, .int x1, .int x2, .int x3, .int x4, .int x5, .int x6] [] H Q = jm_c S 127 [.ref (jm_R H r0 5), .int x6] H (fun v G => jm_w S 6 123 88 [.ref r0, .int x1, .int x2, .int x3, .int x4, .int x5, .int x6] (v.toList ++ []) G Q) := (js1 at123_79 rfl rfl rfl).trans ((jsgR (H := H) at123_80 rv123g_43 rfl h0 h1 rfl).trans ((js1 at123_83 rfl rfl rfl).trans (jscall (H := H) (as := [.ref (jm_R H r0 5), .int x6]) (q := []) at123_85 rfl rv123i_274 (jscutV rfl rfl rfl (Nat.le_of_ble_eq_true rfl) rfl h2) rfl (Nat.le_of_ble_eq_true rfl) rfl rfl)))
theorem at123_88 : jm_at 123 88 = some (.lreturn) := by decide +kernel
theorem u123_88 {S : Option (Nat × (Nat → Int32))} {H : jm_H} {Q : Option Value → jm_H → Prop} {r0 : Nat} {x1 x2 x3 x4 x5 x6 : Int32} {q0 : Int64} : jm_w S 6 123 88 [.ref r0, .int x1, .int x2, .int x3, .int x4, .int x5, .int x6] [.long q0] H Q = Q (some (.long q0)) H := jsret_l at123_88 rfl
theorem en123 {S : Option (Nat × (Nat → Int32))} {H : jm_H} {Q : Option Value → jm_H → Prop} {r0 : Nat} {x1 x2 x3 x4 x5 : Int32} : jm_c S 123 [.ref r0, .int x1, .int x2, .int x3, .int x4, .int x5] H Q = jm_w S 6 123 0 [.ref r0, .int x1, .int x2, .int x3, .int x4, .int x5, .null] [] H Q := rfl
theorem at129_0 : jm_at 129 0 = some (.iload_n 1) := by decide +kernel
theorem at129_1 : jm_at 129 1 = some (.iload_n 2) := by decide +kernel
theorem at129_2 : jm_at 129 2 = some (.iload_n 3) := by decide +kernel
theorem at129_3 : jm_at 129 3 = some (.iload 4) := by decide +kernel
theorem at129_5 : jm_at 129 5 = some (.invokestatic 251) := by decide +kernel
theorem rv129i_251 : jm_rv 129 (.invokestatic 251) = (1, 115, 0, 0) := by decide +kernel
theorem u129_0 {S : Option (Nat × (Nat → Int32))} {H : jm_H} {Q : Option Value → jm_H → Prop} {r0 : Nat} {x1 x2 x3 x4 x5 : Int32} : jm_w S 7 129 0 [.ref r0, .int x1, .int x2, .int x3, .int x4, .int x5] [] H Q = jm_c S 115 [.int x1, .int x2, .int x3, .int x4] H (fun v G => jm_w S 7 129 8 [.ref r0, .int x1, .int x2, .int x3, .int x4, .int x5] (v.toList ++ []) G Q) := (js1 at129_0 rfl rfl rfl).trans ((js1 at129_1 rfl rfl rfl).trans ((js1 at129_2 rfl rfl rfl).trans ((js1 at129_3 rfl rfl rfl).trans (jscall (H := H) (as := [.int x1, .int x2, .int x3, .int x4]) (q := []) at129_5 rfl rv129i_251 (jscut rfl rfl rfl (Nat.le_of_ble_eq_true rfl)) rfl (Nat.le_of_ble_eq_true rfl) rfl rfl))))
theorem at129_8 : jm_at 129 8 = some (.ifCond .eq 14) := by decide +kernel
theorem u129_8 {S : Option (Nat × (Nat → Int32))} {H : jm_H} {Q : Option Value → jm_H → Prop} {r0 : Nat} {x1 x2 x3 x4 x5 p0 : Int32} : jm_w S 7 129 8 [.ref r0, .int x1, .int x2, .int x3, .int x4, .int x5] [.int p0] H Q = if p0 = 0 then jm_w S 7 129 22 [.ref r0, .int x1, .int x2, .int x3, .int x4, .int x5] [] H Q else jm_w S 7 129 11 [.ref r0, .int x1, .int x2, .int x3, .int x4, .int x5] [] H Q := jsif (P := p0 = 0) at129_8 rfl rfl
theorem at129_11 : jm_at 129 11 = some (.iload 5) := by decide +kernel
theorem at129_13 : jm_at 129 13 = some (.ifCond .lt 9) := by decide +kernel
theorem u129_11 {S : Option (Nat × (Nat → Int32))} {H : jm_H} {Q : Option Value → jm_H → Prop} {r0 : Nat} {x1 x2 x3 x4 x5 : Int32} : jm_w S 7 129 11 [.ref r0, .int x1, .int x2, .int x3, .int x4, .int x5] [] H Q = if x5 < 0 then jm_w S 7 129 22 [.ref r0, .int x1, .int x2, .int x3, .int x4, .int x5] [] H Q else jm_w S 7 129 16 [.ref r0, .int x1, .int x2, .int x3, .int x4, .int x5] [] H Q := (js1 at129_11 rfl rfl rfl).trans (jsif (P := x5 < 0) at129_13 rfl rfl)
theorem at129_16 : jm_at 129 16 = some (.iload 5) := by decide +kernel
theorem at129_18 : jm_at 129 18 = some (.iconst 3) := by decide +kernel
theorem at129_19 : jm_at 129 19 = some (.if_icmp .le 5) := by decide +kernel
theorem u129_16 {S : Option (Nat × (Nat → Int32))} {H : jm_H} {Q : Option Value → jm_H → Prop} {r0 : Nat} {x1 x2 x3 x4 x5 : Int32} : jm_w S 7 129 16 [.ref r0, .int x1, .int x2, .int x3, .int x4, .int x5] [] H Q = if x5 ≤ (3 : Int32) then jm_w S 7 129 24 [.ref r0, .int x1, .int x2, .int x3, .int x4, .int x5] [] H Q else jm_w S 7 129 22 [.ref r0, .int x1, .int x2, .int x3, .int x4, .int x5] [] H Q := (js1 at129_16 rfl rfl rfl).trans ((jsci at129_18 rfl rfl).trans (jsif (P := x5 ≤ (3 : Int32)) at129_19 rfl rfl))
theorem at129_22 : jm_at 129 22 = some (.iconst (-1)) := by decide +kernel
theorem at129_23 : jm_at 129 23 = some (.ireturn) := by decide +kernel
theorem u129_22 {S : Option (Nat × (Nat → Int32))} {H : jm_H} {Q : Option Value → jm_H → Prop} {r0 : Nat} {x1 x2 x3 x4 x5 : Int32} : jm_w S 7 129 22 [.ref r0, .int x1, .int x2, .int x3, .int x4, .int x5] [] H Q = Q (some (.int (-1 : Int32))) H := (jsci at129_22 rfl rfl).trans (jsret_i at129_23 rfl)
theorem at129_24 : jm_at 129 24 = some (.aload_n 0) := by decide +kernel
theorem at129_25 : jm_at 129 25 = some (.getfield 32) := by decide +kernel
theorem rv129g_32 : jm_rv 129 (.getfield 32) = (0, 11, 3, 0) := by decide +kernel
theorem at129_28 : jm_at 129 28 = some (.iload_n 1) := by decide +kernel
theorem at129_29 : jm_at 129 29 = some (.iload_n 2) := by decide +kernel
theorem at129_30 : jm_at 129 30 = some (.iload_n 3) := by decide +kernel
theorem at129_31 : jm_at 129 31 = some (.iload 4) := by decide +kernel
theorem at129_33 : jm_at 129 33 = some (.iload 5) := by decide +kernel
theorem at129_35 : jm_at 129 35 = some (.invokevirtual 278) := by decide +kernel
theorem rv129i_278 : jm_rv 129 (.invokevirtual 278) = (2, 87, 0, 0) := by decide +kernel
theorem u129_24 {S : Option (Nat × (Nat → Int32))} {H : jm_H} {Q : Option Value → jm_H → Prop} {r0 : Nat} {x1 x2 x3 x4 x5 : Int32} (h0 : jm_tg H r0 = 12) (h1 : ¬ jm_R H r0 3 = 0) (h2 : jm_tg H (jm_R H r0 3) = 4) : jm_w S 7 129 24 [.ref r0, .int x1, .int x2, .int x3, .int x4, .int x5] [] H Q = jm_c S 87 [.ref (jm_R H r0 3), .int x1, .int x2, .int x3, .int x4, .int x5] H (fun v G => jm_w S 7 129 38 [.ref r0, .int x1, .int x2, .int x3, .int x4, .int x5] (v.toList ++ []) G Q) := (js1 at129_24 rfl rfl rfl).trans ((jsgR (H := H) at129_25 rv129g_32 rfl h0 h1 rfl).trans ((js1 at129_28 rfl rfl rfl).trans ((js1 at129_29 rfl rfl rfl).trans ((js1 at129_30 rfl rfl rfl).trans ((js1 at129_31 rfl rfl rfl).trans ((js1 at129_33 rfl rfl rfl).trans (jscall (H := H) (as := [.ref (jm_R H r0 3), .int x1, .int x2, .int x3, .int x4, .int x5]) (q := []) at129_35 rfl rv129i_278 (jscutV rfl rfl rfl (Nat.le_of_ble_eq_true rfl) rfl h2) rfl (Nat.le_of_ble_eq_true rfl) rfl rfl)))))))
theorem at129_38 : jm_at 129 38 = some (.ireturn) := by decide +kernel
theorem u129_38 {S : Option (Nat × (Nat → Int32))} {H : jm_H} {Q : Option Value → jm_H → Prop} {r0 : Nat} {x1 x2 x3 x4 x5 p0 : Int32} : jm_w S 7 129 38 [.ref r0, .int x1, .int x2, .int x3, .int x4, .int x5] [.int p0] H Q = Q (some (.int p0)) H := jsret_i at129_38 rfl
theorem en129 {S : Option (Nat × (Nat → Int32))} {H : jm_H} {Q : Option Value → jm_H → Prop} {r0 : Nat} {x1 x2 x3 x4 x5 : Int32} : jm_c S 129 [.ref r0, .int x1, .int x2, .int x3, .int x4, .int x5] H Q = jm_w S 7 129 0 [.ref r0, .int x1, .int x2, .int x3, .int x4, .int x5] [] H Q := rfl
theorem at130_0 : jm_at 130 0 = some (.iload_n 1) := by decide +kernel
theorem at130_1 : jm_at 130 1 = some (.iload_n 2) := by decide +kernel
theorem at130_2 : jm_at 130 2 = some (.iload_n 3) := by decide +kernel
theorem at130_3 : jm_at 130 3 = some (.iload 4) := by decide +kernel
theorem at130_5 : jm_at 130 5 = some (.invokestatic 251) := by decide +kernel
theorem rv130i_251 : jm_rv 130 (.invokestatic 251) = (1, 115, 0, 0) := by decide +kernel
theorem u130_0 {S : Option (Nat × (Nat → Int32))} {H : jm_H} {Q : Option Value → jm_H → Prop} {r0 : Nat} {x1 x2 x3 x4 x5 : Int32} : jm_w S 7 130 0 [.ref r0, .int x1, .int x2, .int x3, .int x4, .int x5] [] H Q = jm_c S 115 [.int x1, .int x2, .int x3, .int x4] H (fun v G => jm_w S 7 130 8 [.ref r0, .int x1, .int x2, .int x3, .int x4, .int x5] (v.toList ++ []) G Q) := (js1 at130_0 rfl rfl rfl).trans ((js1 at130_1 rfl rfl rfl).trans ((js1 at130_2 rfl rfl rfl).trans ((js1 at130_3 rfl rfl rfl).trans (jscall (H := H) (as := [.int x1, .int x2, .int x3, .int x4]) (q := []) at130_5 rfl rv130i_251 (jscut rfl rfl rfl (Nat.le_of_ble_eq_true rfl)) rfl (Nat.le_of_ble_eq_true rfl) rfl rfl))))
theorem at130_8 : jm_at 130 8 = some (.ifCond .eq 14) := by decide +kernel
theorem u130_8 {S : Option (Nat × (Nat → Int32))} {H : jm_H} {Q : Option Value → jm_H → Prop} {r0 : Nat} {x1 x2 x3 x4 x5 p0 : Int32} : jm_w S 7 130 8 [.ref r0, .int x1, .int x2, .int x3, .int x4, .int x5] [.int p0] H Q = if p0 = 0 then jm_w S 7 130 22 [.ref r0, .int x1, .int x2, .int x3, .int x4, .int x5] [] H Q else jm_w S 7 130 11 [.ref r0, .int x1, .int x2, .int x3, .int x4, .int x5] [] H Q := jsif (P := p0 = 0) at130_8 rfl rfl
theorem at130_11 : jm_at 130 11 = some (.iload 5) := by decide +kernel
theorem at130_13 : jm_at 130 13 = some (.ifCond .lt 9) := by decide +kernel
theorem u130_11 {S : Option (Nat × (Nat → Int32))} {H : jm_H} {Q : Option Value → jm_H → Prop} {r0 : Nat} {x1 x2 x3 x4 x5 : Int32} : jm_w S 7 130 11 [.ref r0, .int x1, .int x2, .int x3, .int x4, .int x5] [] H Q = if x5 < 0 then jm_w S 7 130 22 [.ref r0, .int x1, .int x2, .int x3, .int x4, .int x5] [] H Q else jm_w S 7 130 16 [.ref r0, .int x1, .int x2, .int x3, .int x4, .int x5] [] H Q := (js1 at130_11 rfl rfl rfl).trans (jsif (P := x5 < 0) at130_13 rfl rfl)
theorem at130_16 : jm_at 130 16 = some (.iload 5) := by decide +kernel
theorem at130_18 : jm_at 130 18 = some (.iconst 3) := by decide +kernel
theorem at130_19 : jm_at 130 19 = some (.if_icmp .le 5) := by decide +kernel
theorem u130_16 {S : Option (Nat × (Nat → Int32))} {H : jm_H} {Q : Option Value → jm_H → Prop} {r0 : Nat} {x1 x2 x3 x4 x5 : Int32} : jm_w S 7 130 16 [.ref r0, .int x1, .int x2, .int x3, .int x4, .int x5] [] H Q = if x5 ≤ (3 : Int32) then jm_w S 7 130 24 [.ref r0, .int x1, .int x2, .int x3, .int x4, .int x5] [] H Q else jm_w S 7 130 22 [.ref r0, .int x1, .int x2, .int x3, .int x4, .int x5] [] H Q := (js1 at130_16 rfl rfl rfl).trans ((jsci at130_18 rfl rfl).trans (jsif (P := x5 ≤ (3 : Int32)) at130_19 rfl rfl))
theorem at130_22 : jm_at 130 22 = some (.iconst (-1)) := by decide +kernel
theorem at130_23 : jm_at 130 23 = some (.ireturn) := by decide +kernel
theorem u130_22 {S : Option (Nat × (Nat → Int32))} {H : jm_H} {Q : Option Value → jm_H → Prop} {r0 : Nat} {x1 x2 x3 x4 x5 : Int32} : jm_w S 7 130 22 [.ref r0, .int x1, .int x2, .int x3, .int x4, .int x5] [] H Q = Q (some (.int (-1 : Int32))) H := (jsci at130_22 rfl rfl).trans (jsret_i at130_23 rfl)
theorem at130_24 : jm_at 130 24 = some (.aload_n 0) := by decide +kernel
theorem at130_25 : jm_at 130 25 = some (.getfield 32) := by decide +kernel
theorem rv130g_32 : jm_rv 130 (.getfield 32) = (0, 11, 3, 0) := by decide +kernel
theorem at130_28 : jm_at 130 28 = some (.iload_n 1) := by decide +kernel
theorem at130_29 : jm_at 130 29 = some (.iload_n 2) := by decide +kernel
theorem at130_30 : jm_at 130 30 = some (.iload_n 3) := by decide +kernel
theorem at130_31 : jm_at 130 31 = some (.iload 4) := by decide +kernel
theorem at130_33 : jm_at 130 33 = some (.iload 5) := by decide +kernel
theorem at130_35 : jm_at 130 35 = some (.invokevirtual 278) := by decide +kernel
theorem rv130i_278 : jm_rv 130 (.invokevirtual 278) = (2, 87, 0, 0) := by decide +kernel
theorem u130_24 {S : Option (Nat × (Nat → Int32))} {H : jm_H} {Q : Option Value → jm_H → Prop} {r0 : Nat} {x1 x2 x3 x4 x5 : Int32} (h0 : jm_tg H r0 = 12) (h1 : ¬ jm_R H r0 3 = 0) (h2 : jm_tg H (jm_R H r0 3) = 4) : jm_w S 7 130 24 [.ref r0, .int x1, .int x2, .int x3, .int x4, .int x5] [] H Q = jm_c S 87 [.ref (jm_R H r0 3), .int x1, .int x2, .int x3, .int x4, .int x5] H (fun v G => jm_w S 7 130 38 [.ref r0, .int x1, .int x2, .int x3, .int x4, .int x5] (v.toList ++ []) G Q) := (js1 at130_24 rfl rfl rfl).trans ((jsgR (H := H) at130_25 rv130g_32 rfl h0 h1 rfl).trans ((js1 at130_28 rfl rfl rfl).trans ((js1 at130_29 rfl rfl rfl).trans ((js1 at130_30 rfl rfl rfl).trans ((js1 at130_31 rfl rfl rfl).trans ((js1 at130_33 rfl rfl rfl).trans (jscall (H := H) (as := [.ref (jm_R H r0 3), .int x1, .int x2, .int x3, .int x4, .int x5]) (q := []) at130_35 rfl rv130i_278 (jscutV rfl rfl rfl (Nat.le_of_ble_eq_true rfl) rfl h2) rfl (Nat.le_of_ble_eq_true rfl) rfl rfl)))))))
theorem at130_38 : jm_at 130 38 = some (.pop) := by decide +kernel
theorem at130_39 : jm_at 130 39 = some (.aload_n 0) := by decide +kernel
theorem at130_40 : jm_at 130 40 = some (.getfield 32) := by decide +kernel
theorem at130_43 : jm_at 130 43 = some (.getfield 284) := by decide +kernel
theorem rv130g_284 : jm_rv 130 (.getfield 284) = (0, 3, 3, 0) := by decide +kernel
theorem at130_46 : jm_at 130 46 = some (.ireturn) := by decide +kernel
theorem u130_38 {S : Option (Nat × (Nat → Int32))} {H : jm_H} {Q : Option Value → jm_H → Prop} {r0 : Nat} {x1 x2 x3 x4 x5 p0 : Int32} (h0 : jm_tg H r0 = 12) (h1 : ¬ jm_R H r0 3 = 0) (h2 : jm_tg H (jm_R H r0 3) = 4) : jm_w S 7 130 38 [.ref r0, .int x1, .int x2, .int x3, .int x4, .int x5] [.int p0] H Q = Q (some (.int (jm_I H (jm_R H r0 3) 3))) H := (js0 at130_38 rfl rfl rfl).trans ((js1 at130_39 rfl rfl rfl).trans ((jsgR (H := H) at130_40 rv130g_32 rfl h0 h1 rfl).trans ((jsgI (H := H) at130_43 rv130g_284 (Or.inl rfl) h2 rfl).trans (jsret_i at130_46 rfl))))
theorem en130 {S : Option (Nat × (Nat → Int32))} {H : jm_H} {Q : Option Value → jm_H → Prop} {r0 : Nat} {x1 x2 x3 x4 x5 : Int32} : jm_c S 130 [.ref r0, .int x1, .int x2, .int x3, .int x4, .int x5] H Q = jm_w S 7 130 0 [.ref r0, .int x1, .int x2, .int x3, .int x4, .int x5] [] H Q := rfl
theorem at131_0 : jm_at 131 0 = some (.iload_n 1) := by decide +kernel
theorem at131_1 : jm_at 131 1 = some (.iload_n 2) := by decide +kernel
theorem at131_2 : jm_at 131 2 = some (.iload_n 3) := by decide +kernel
theorem at131_3 : jm_at 131 3 = some (.invokestatic 152) := by decide +kernel
theorem rv131i_152 : jm_rv 131 (.invokestatic 152) = (1, 99, 0, 0) := by decide +kernel
theorem u131_0 {S : Option (Nat × (Nat → Int32))} {H : jm_H} {Q : Option Value → jm_H → Prop} {r0 : Nat} {x1 x2 x3 : Int32} : jm_w S 7 131 0 [.ref r0, .int x1, .int x2, .int x3] [] H Q = jm_c S 99 [.int x1, .int x2, .int x3] H (fun v G => jm_w S 7 131 6 [.ref r0, .int x1, .int x2, .int x3] (v.toList ++ []) G Q) := (js1 at131_0 rfl rfl rfl).trans ((js1 at131_1 rfl rfl rfl).trans ((js1 at131_2 rfl rfl rfl).trans (jscall (H := H) (as := [.int x1, .int x2, .int x3]) (q := []) at131_3 rfl rv131i_152 (jscut rfl rfl rfl (Nat.le_of_ble_eq_true rfl)) rfl (Nat.le_of_ble_eq_true rfl) rfl rfl)))
theorem at131_6 : jm_at 131 6 = some (.ifCond .ne 5) := by decide +kernel
theorem u131_6 {S : Option (Nat × (Nat → Int32))} {H : jm_H} {Q : Option Value → jm_H → Prop} {r0 : Nat} {x1 x2 x3 p0 : Int32} : jm_w S 7 131 6 [.ref r0, .int x1, .int x2, .int x3] [.int p0] H Q = if ¬ p0 = 0 then jm_w S 7 131 11 [.ref r0, .int x1, .int x2, .int x3] [] H Q else jm_w S 7 131 9 [.ref r0, .int x1, .int x2, .int x3] [] H Q := jsif (P := ¬ p0 = 0) at131_6 rfl rfl
theorem at131_9 : jm_at 131 9 = some (.iconst (-1)) := by decide +kernel
theorem at131_10 : jm_at 131 10 = some (.ireturn) := by decide +kernel
theorem u131_9 {S : Option (Nat × (Nat → Int32))} {H : jm_H} {Q : Option Value → jm_H → Prop} {r0 : Nat} {x1 x2 x3 : Int32} : jm_w S 7 131 9 [.ref r0, .int x1, .int x2, .int x3] [] H Q = Q (some (.int (-1 : Int32))) H := (jsci at131_9 rfl rfl).trans (jsret_i at131_10 rfl)
theorem at131_11 : jm_at 131 11 = some (.aload_n 0) := by decide +kernel
theorem at131_12 : jm_at 131 12 = some (.getfield 32) := by decide +kernel
theorem rv131g_32 : jm_rv 131 (.getfield 32) = (0, 11, 3, 0) := by decide +kernel
theorem at131_15 : jm_at 131 15 = some (.iload_n 1) := by decide +kernel
theorem at131_16 : jm_at 131 16 = some (.iload_n 2) := by decide +kernel
theorem at131_17 : jm_at 131 17 = some (.iload_n 3) := by decide +kernel
theorem at131_18 : jm_at 131 18 = some (.invokevirtual 287) := by decide +kernel
theorem rv131i_287 : jm_rv 131 (.invokevirtual 287) = (2, 67, 0, 0) := by decide +kernel
theorem u131_11 {S : Option (Nat × (Nat → Int32))} {H : jm_H} {Q : Option Value → jm_H → Prop} {r0 : Nat} {x1 x2 x3 : Int32} (h0 : jm_tg H r0 = 12) (h1 : ¬ jm_R H r0 3 = 0) (h2 : jm_tg H (jm_R H r0 3) = 4) : jm_w S 7 131 11 [.ref r0, .int x1, .int x2, .int x3] [] H Q = jm_c S 67 [.ref (jm_R H r0 3), .int x1, .int x2, .int x3] H (fun v G => jm_w S 7 131 21 [.ref r0, .int x1, .int x2, .int x3] (v.toList ++ []) G Q) := (js1 at131_11 rfl rfl rfl).trans ((jsgR (H := H) at131_12 rv131g_32 rfl h0 h1 rfl).trans ((js1 at131_15 rfl rfl rfl).trans ((js1 at131_16 rfl rfl rfl).trans ((js1 at131_17 rfl rfl rfl).trans (jscall (H := H) (as := [.ref (jm_R H r0 3), .int x1, .int x2, .int x3]) (q := []) at131_18 rfl rv131i_287 (jscutV rfl rfl rfl (Nat.le_of_ble_eq_true rfl) rfl h2) rfl (Nat.le_of_ble_eq_true rfl) rfl rfl)))))
theorem at131_21 : jm_at 131 21 = some (.ireturn) := by decide +kernel
theorem u131_21 {S : Option (Nat × (Nat → Int32))} {H : jm_H} {Q : Option Value → jm_H → Prop} {r0 : Nat} {x1 x2 x3 p0 : Int32} : jm_w S 7 131 21 [.ref r0, .int x1, .int x2, .int x3] [.int p0] H Q = Q (some (.int p0)) H := jsret_i at131_21 rfl
theorem en131 {S : Option (Nat × (Nat → Int32))} {H : jm_H} {Q : Option Value → jm_H → Prop} {r0 : Nat} {x1 x2 x3 : Int32} : jm_c S 131 [.ref r0, .int x1, .int x2, .int x3] H Q = jm_w S 7 131 0 [.ref r0, .int x1, .int x2, .int x3] [] H Q := rfl
theorem at132_0 : jm_at 132 0 = some (.iload_n 1) := by decide +kernel
theorem at132_1 : jm_at 132 1 = some (.iload_n 2) := by decide +kernel
theorem at132_2 : jm_at 132 2 = some (.iload_n 3) := by decide +kernel
theorem at132_3 : jm_at 132 3 = some (.invokestatic 152) := by decide +kernel
theorem rv132i_152 : jm_rv 132 (.invokestatic 152) = (1, 99, 0, 0) := by decide +kernel
theorem u132_0 {S : Option (Nat × (Nat → Int32))} {H : jm_H} {Q : Option Value → jm_H → Prop} {r0 : Nat} {x1 x2 x3 x4 x5 : Int32} : jm_w S 6 132 0 [.ref r0, .int x1, .int x2, .int x3, .int x4, .int x5] [] H Q = jm_c S 99 [.int x1, .int x2, .int x3] H (fun v G => jm_w S 6 132 6 [.ref r0, .int x1, .int x2, .int x3, .int x4, .int x5] (v.toList ++ []) G Q) := (js1 at132_0 rfl rfl rfl).trans ((js1 at132_1 rfl rfl rfl).trans ((js1 at132_2 rfl rfl rfl).trans (jscall (H := H) (as := [.int x1, .int x2, .int x3]) (q := []) at132_3 rfl rv132i_152 (jscut rfl rfl rfl (Nat.le_of_ble_eq_true rfl)) rfl (Nat.le_of_ble_eq_true rfl) rfl rfl)))
theorem at132_6 : jm_at 132 6 = some (.ifCond .eq 13) := by decide +kernel
theorem u132_6 {S : Option (Nat × (Nat → Int32))} {H : jm_H} {Q : Option Value → jm_H → Prop} {r0 : Nat} {x1 x2 x3 x4 x5 p0 : Int32} : jm_w S 6 132 6 [.ref r0, .int x1, .int x2, .int x3, .int x4, .int x5] [.int p0] H Q = if p0 = 0 then jm_w S 6 132 19 [.ref r0, .int x1, .int x2, .int x3, .int x4, .int x5] [] H Q else jm_w S 6 132 9 [.ref r0, .int x1, .int x2, .int x3, .int x4, .int x5] [] H Q := jsif (P := p0 = 0) at132_6 rfl rfl
theorem at132_9 : jm_at 132 9 = some (.iload 4) := by decide +kernel
theorem at132_11 : jm_at 132 11 = some (.iload 5) := by decide +kernel
theorem at132_13 : jm_at 132 13 = some (.invokestatic 143) := by decide +kernel
theorem rv132i_143 : jm_rv 132 (.invokestatic 143) = (1, 93, 0, 0) := by decide +kernel
theorem u132_9 {S : Option (Nat × (Nat → Int32))} {H : jm_H} {Q : Option Value → jm_H → Prop} {r0 : Nat} {x1 x2 x3 x4 x5 : Int32} : jm_w S 6 132 9 [.ref r0, .int x1, .int x2, .int x3, .int x4, .int x5] [] H Q = jm_c S 93 [.int x4, .int x5] H (fun v G => jm_w S 6 132 16 [.ref r0, .int x1, .int x2, .int x3, .int x4, .int x5] (v.toList ++ []) G Q) := (js1 at132_9 rfl rfl rfl).trans ((js1 at132_11 rfl rfl rfl).trans (jscall (H := H) (as := [.int x4, .int x5]) (q := []) at132_13 rfl rv132i_143 (jscut rfl rfl rfl (Nat.le_of_ble_eq_true rfl)) rfl (Nat.le_of_ble_eq_true rfl) rfl rfl))
theorem at132_16 : jm_at 132 16 = some (.ifCond .ne 5) := by decide +kernel
theorem u132_16 {S : Option (Nat × (Nat → Int32))} {H : jm_H} {Q : Option Value → jm_H → Prop} {r0 : Nat} {x1 x2 x3 x4 x5 p0 : Int32} : jm_w S 6 132 16 [.ref r0, .int x1, .int x2, .int x3, .int x4, .int x5] [.int p0] H Q = if ¬ p0 = 0 then jm_w S 6 132 21 [.ref r0, .int x1, .int x2, .int x3, .int x4, .int x5] [] H Q else jm_w S 6 132 19 [.ref r0, .int x1, .int x2, .int x3, .int x4, .int x5] [] H Q := jsif (P := ¬ p0 = 0) at132_16 rfl rfl
theorem at132_19 : jm_at 132 19 = some (.iconst (-1)) := by decide +kernel
theorem at132_20 : jm_at 132 20 = some (.ireturn) := by decide +kernel
theorem u132_19 {S : Option (Nat × (Nat → Int32))} {H : jm_H} {Q : Option Value → jm_H → Prop} {r0 : Nat} {x1 x2 x3 x4 x5 : Int32} : jm_w S 6 132 19 [.ref r0, .int x1, .int x2, .int x3, .int x4, .int x5] [] H Q = Q (some (.int (-1 : Int32))) H := (jsci at132_19 rfl rfl).trans (jsret_i at132_20 rfl)
theorem at132_21 : jm_at 132 21 = some (.aload_n 0) := by decide +kernel
theorem at132_22 : jm_at 132 22 = some (.getfield 43) := by decide +kernel
theorem rv132g_43 : jm_rv 132 (.getfield 43) = (0, 11, 5, 0) := by decide +kernel
theorem at132_25 : jm_at 132 25 = some (.iload_n 1) := by decide +kernel
theorem at132_26 : jm_at 132 26 = some (.iload_n 2) := by decide +kernel
theorem at132_27 : jm_at 132 27 = some (.iload_n 3) := by decide +kernel
theorem at132_28 : jm_at 132 28 = some (.invokevirtual 156) := by decide +kernel
theorem rv132i_156 : jm_rv 132 (.invokevirtual 156) = (2, 68, 0, 0) := by decide +kernel
theorem u132_21 {S : Option (Nat × (Nat → Int32))} {H : jm_H} {Q : Option Value → jm_H → Prop} {r0 : Nat} {x1 x2 x3 x4 x5 : Int32} (h0 : jm_tg H r0 = 12) (h1 : ¬ jm_R H r0 5 = 0) (h2 : jm_tg H (jm_R H r0 5) = 3) : jm_w S 6 132 21 [.ref r0, .int x1, .int x2, .int x3, .int x4, .int x5] [] H Q = jm_c S 68 [.ref (jm_R H r0 5), .int x1, .int x2, .int x3] H (fun v G => jm_w S 6 132 31 [.ref r0, .int x1, .int x2, .int x3, .int x4, .int x5] (v.toList ++ []) G Q) := (js1 at132_21 rfl rfl rfl).trans ((jsgR (H := H) at132_22 rv132g_43 rfl h0 h1 rfl).trans ((js1 at132_25 rfl rfl rfl).trans ((js1 at132_26 rfl rfl rfl).trans ((js1 at132_27 rfl rfl rfl).trans (jscall (H := H) (as := [.ref (jm_R H r0 5), .int x1, .int x2, .int x3]) (q := []) at132_28 rfl rv132i_156 (jscutV rfl rfl rfl (Nat.le_of_ble_eq_true rfl) rfl h2) rfl (Nat.le_of_ble_eq_true rfl) rfl rfl)))))
theorem at132_31 : jm_at 132 31 = some (.aload_n 0) := by decide +kernel
theorem at132_32 : jm_at 132 32 = some (.getfield 32) := by decide +kernel
theorem rv132g_32 : jm_rv 132 (.getfield 32) = (0, 11, 3, 0) := by decide +kernel
theorem at132_35 : jm_at 132 35 = some (.iload 4) := by decide +kernel
theorem at132_37 : jm_at 132 37 = some (.iload 5) := by decide +kernel
theorem at132_39 : jm_at 132 39 = some (.aload_n 0) := by decide +kernel
theorem at132_40 : jm_at 132 40 = some (.getfield 43) := by decide +kernel
theorem at132_43 : jm_at 132 43 = some (.invokevirtual 291) := by decide +kernel
theorem rv132i_291 : jm_rv 132 (.invokevirtual 291) = (2, 49, 0, 0) := by decide +kernel
theorem u132_31 {S : Option (Nat × (Nat → Int32))} {H : jm_H} {Q : Option Value → jm_H → Prop} {r0 : Nat} {x1 x2 x3 x4 x5 : Int32} (h0 : jm_tg H r0 = 12) (h1 : ¬ jm_R H r0 3 = 0) (h2 : ¬ jm_R H r0 5 = 0) (h3 : jm_tg H (jm_R H r0 3) = 4) : jm_w S 6 132 31 [.ref r0, .int x1, .int x2, .int x3, .int x4, .int x5] [] H Q = jm_c S 49 [.ref (jm_R H r0 3), .int x4, .int x5, .ref (jm_R H r0 5)] H (fun v G => jm_w S 6 132 46 [.ref r0, .int x1, .int x2, .int x3, .int x4, .int x5] (v.toList ++ []) G Q) := (js1 at132_31 rfl rfl rfl).trans ((jsgR (H := H) at132_32 rv132g_32 rfl h0 h1 rfl).trans ((js1 at132_35 rfl rfl rfl).trans ((js1 at132_37 rfl rfl rfl).trans ((js1 at132_39 rfl rfl rfl).trans ((jsgR (H := H) at132_40 rv132g_43 rfl h0 h2 rfl).trans (jscall (H := H) (as := [.ref (jm_R H r0 3), .int x4, .int x5, .ref (jm_R H r0 5)]) (q := []) at132_43 rfl rv132i_291 (jscutV rfl rfl rfl (Nat.le_of_ble_eq_true rfl) rfl h3) rfl (Nat.le_of_ble_eq_true rfl) rfl rfl))))))
theorem at132_46 : jm_at 132 46 = some (.ireturn) := by decide +kernel
theorem u132_46 {S : Option (Nat × (Nat → Int32))} {H : jm_H} {Q : Option Value → jm_H → Prop} {r0 : Nat} {x1 x2 x3 x4 x5 p0 : Int32} : jm_w S 6 132 46 [.ref r0, .int x1, .int x2, .int x3, .int x4, .int x5] [.int p0] H Q = Q (some (.int p0)) H := jsret_i at132_46 rfl
theorem en132 {S : Option (Nat × (Nat → Int32))} {H : jm_H} {Q : Option Value → jm_H → Prop} {r0 : Nat} {x1 x2 x3 x4 x5 : Int32} : jm_c S 132 [.ref r0, .int x1, .int x2, .int x3, .int x4, .int x5] H Q = jm_w S 6 132 0 [.ref r0, .int x1, .int x2, .int x3, .int x4, .int x5] [] H Q := rfl
theorem at133_0 : jm_at 133 0 = some (.iload_n 1) := by decide +kernel
theorem at133_1 : jm_at 133 1 = some (.iload_n 2) := by decide +kernel
theorem at133_2 : jm_at 133 2 = some (.invokestatic 143) := by decide +kernel
theorem rv133i_143 : jm_rv 133 (.invokestatic 143) = (1, 93, 0, 0) := by decide +kernel
theorem u133_0 {S : Option (Nat × (Nat → Int32))} {H : jm_H} {Q : Option Value → jm_H → Prop} {r0 : Nat} {x1 x2 x3 x4 : Int32} : jm_w S 7 133 0 [.ref r0, .int x1, .int x2, .int x3, .int x4] [] H Q = jm_c S 93 [.int x1, .int x2] H (fun v G => jm_w S 7 133 5 [.ref r0, .int x1, .int x2, .int x3, .int x4] (v.toList ++ []) G Q) := (js1 at133_0 rfl rfl rfl).trans ((js1 at133_1 rfl rfl rfl).trans (jscall (H := H) (as := [.int x1, .int x2]) (q := []) at133_2 rfl rv133i_143 (jscut rfl rfl rfl (Nat.le_of_ble_eq_true rfl)) rfl (Nat.le_of_ble_eq_true rfl) rfl rfl))
theorem at133_5 : jm_at 133 5 = some (.ifCond .eq 18) := by decide +kernel
theorem u133_5 {S : Option (Nat × (Nat → Int32))} {H : jm_H} {Q : Option Value → jm_H → Prop} {r0 : Nat} {x1 x2 x3 x4 p0 : Int32} : jm_w S 7 133 5 [.ref r0, .int x1, .int x2, .int x3, .int x4] [.int p0] H Q = if p0 = 0 then jm_w S 7 133 23 [.ref r0, .int x1, .int x2, .int x3, .int x4] [] H Q else jm_w S 7 133 8 [.ref r0, .int x1, .int x2, .int x3, .int x4] [] H Q := jsif (P := p0 = 0) at133_5 rfl rfl
theorem at133_8 : jm_at 133 8 = some (.iload_n 3) := by decide +kernel
theorem at133_9 : jm_at 133 9 = some (.invokestatic 295) := by decide +kernel
theorem rv133i_295 : jm_rv 133 (.invokestatic 295) = (1, 134, 0, 0) := by decide +kernel
theorem u133_8 {S : Option (Nat × (Nat → Int32))} {H : jm_H} {Q : Option Value → jm_H → Prop} {r0 : Nat} {x1 x2 x3 x4 : Int32} : jm_w S 7 133 8 [.ref r0, .int x1, .int x2, .int x3, .int x4] [] H Q = jm_c S 134 [.int x3] H (fun v G => jm_w S 7 133 12 [.ref r0, .int x1, .int x2, .int x3, .int x4] (v.toList ++ []) G Q) := (js1 at133_8 rfl rfl rfl).trans (jscall (H := H) (as := [.int x3]) (q := []) at133_9 rfl rv133i_295 (jscut rfl rfl rfl (Nat.le_of_ble_eq_true rfl)) rfl (Nat.le_of_ble_eq_true rfl) rfl rfl)
theorem at133_12 : jm_at 133 12 = some (.ifCond .eq 11) := by decide +kernel
theorem u133_12 {S : Option (Nat × (Nat → Int32))} {H : jm_H} {Q : Option Value → jm_H → Prop} {r0 : Nat} {x1 x2 x3 x4 p0 : Int32} : jm_w S 7 133 12 [.ref r0, .int x1, .int x2, .int x3, .int x4] [.int p0] H Q = if p0 = 0 then jm_w S 7 133 23 [.ref r0, .int x1, .int x2, .int x3, .int x4] [] H Q else jm_w S 7 133 15 [.ref r0, .int x1, .int x2, .int x3, .int x4] [] H Q := jsif (P := p0 = 0) at133_12 rfl rfl
theorem at133_15 : jm_at 133 15 = some (.iload 4) := by decide +kernel
theorem at133_17 : jm_at 133 17 = some (.invokestatic 295) := by decide +kernel
theorem u133_15 {S : Option (Nat × (Nat → Int32))} {H : jm_H} {Q : Option Value → jm_H → Prop} {r0 : Nat} {x1 x2 x3 x4 : Int32} : jm_w S 7 133 15 [.ref r0, .int x1, .int x2, .int x3, .int x4] [] H Q = jm_c S 134 [.int x4] H (fun v G => jm_w S 7 133 20 [.ref r0, .int x1, .int x2, .int x3, .int x4] (v.toList ++ []) G Q) := (js1 at133_15 rfl rfl rfl).trans (jscall (H := H) (as := [.int x4]) (q := []) at133_17 rfl rv133i_295 (jscut rfl rfl rfl (Nat.le_of_ble_eq_true rfl)) rfl (Nat.le_of_ble_eq_true rfl) rfl rfl)
theorem at133_20 : jm_at 133 20 = some (.ifCond .ne 5) := by decide +kernel
theorem u133_20 {S : Option (Nat × (Nat → Int32))} {H : jm_H} {Q : Option Value → jm_H → Prop} {r0 : Nat} {x1 x2 x3 x4 p0 : Int32} : jm_w S 7 133 20 [.ref r0, .int x1, .int x2, .int x3, .int x4] [.int p0] H Q = if ¬ p0 = 0 then jm_w S 7 133 25 [.ref r0, .int x1, .int x2, .int x3, .int x4] [] H Q else jm_w S 7 133 23 [.ref r0, .int x1, .int x2, .int x3, .int x4] [] H Q := jsif (P := ¬ p0 = 0) at133_20 rfl rfl
theorem at133_23 : jm_at 133 23 = some (.iconst (-1)) := by decide +kernel
theorem at133_24 : jm_at 133 24 = some (.ireturn) := by decide +kernel
theorem u133_23 {S : Option (Nat × (Nat → Int32))} {H : jm_H} {Q : Option Value → jm_H → Prop} {r0 : Nat} {x1 x2 x3 x4 : Int32} : jm_w S 7 133 23 [.ref r0, .int x1, .int x2, .int x3, .int x4] [] H Q = Q (some (.int (-1 : Int32))) H := (jsci at133_23 rfl rfl).trans (jsret_i at133_24 rfl)
theorem at133_25 : jm_at 133 25 = some (.aload_n 0) := by decide +kernel
theorem at133_26 : jm_at 133 26 = some (.getfield 32) := by decide +kernel
theorem rv133g_32 : jm_rv 133 (.getfield 32) = (0, 11, 3, 0) := by decide +kernel
theorem at133_29 : jm_at 133 29 = some (.iload_n 1) := by decide +kernel
theorem at133_30 : jm_at 133 30 = some (.iload_n 2) := by decide +kernel
theorem at133_31 : jm_at 133 31 = some (.iload_n 3) := by decide +kernel
theorem at133_32 : jm_at 133 32 = some (.iload 4) := by decide +kernel
theorem at133_34 : jm_at 133 34 = some (.invokevirtual 299) := by decide +kernel
theorem rv133i_299 : jm_rv 133 (.invokevirtual 299) = (2, 135, 0, 0) := by decide +kernel
theorem u133_25 {S : Option (Nat × (Nat → Int32))} {H : jm_H} {Q : Option Value → jm_H → Prop} {r0 : Nat} {x1 x2 x3 x4 : Int32} (h0 : jm_tg H r0 = 12) (h1 : ¬ jm_R H r0 3 = 0) (h2 : jm_tg H (jm_R H r0 3) = 4) : jm_w S 7 133 25 [.ref r0, .int x1, .int x2, .int x3, .int x4] [] H Q = jm_c S 135 [.ref (jm_R H r0 3), .int x1, .int x2, .int x3, .int x4] H (fun v G => jm_w S 7 133 37 [.ref r0, .int x1, .int x2, .int x3, .int x4] (v.toList ++ []) G Q) := (js1 at133_25 rfl rfl rfl).trans ((jsgR (H := H) at133_26 rv133g_32 rfl h0 h1 rfl).trans ((js1 at133_29 rfl rfl rfl).trans ((js1 at133_30 rfl rfl rfl).trans ((js1 at133_31 rfl rfl rfl).trans ((js1 at133_32 rfl rfl rfl).trans (jscall (H := H) (as := [.ref (jm_R H r0 3), .int x1, .int x2, .int x3, .int x4]) (q := []) at133_34 rfl rv133i_299 (jscutV rfl rfl rfl (Nat.le_of_ble_eq_true rfl) rfl h2) rfl (Nat.le_of_ble_eq_true rfl) rfl rfl))))))
theorem at133_37 : jm_at 133 37 = some (.ireturn) := by decide +kernel
theorem u133_37 {S : Option (Nat × (Nat → Int32))} {H : jm_H} {Q : Option Value → jm_H → Prop} {r0 : Nat} {x1 x2 x3 x4 p0 : Int32} : jm_w S 7 133 37 [.ref r0, .int x1, .int x2, .int x3, .int x4] [.int p0] H Q = Q (some (.int p0)) H := jsret_i at133_37 rfl
theorem en133 {S : Option (Nat × (Nat → Int32))} {H : jm_H} {Q : Option Value → jm_H → Prop} {r0 : Nat} {x1 x2 x3 x4 : Int32} : jm_c S 133 [.ref r0, .int x1, .int x2, .int x3, .int x4] H Q = jm_w S 7 133 0 [.ref r0, .int x1, .int x2, .int x3, .int x4] [] H Q := rfl
theorem at134_0 : jm_at 134 0 = some (.iload_n 0) := by decide +kernel
theorem at134_1 : jm_at 134 1 = some (.ldc_w 302) := by decide +kernel
theorem rv134l_302 : jm_rv 134 (.ldc_w 302) = (8, 0, 0, (-1000000)) := by decide +kernel
theorem at134_4 : jm_at 134 4 = some (.if_icmp .lt 14) := by decide +kernel
theorem u134_0 {S : Option (Nat × (Nat → Int32))} {H : jm_H} {Q : Option Value → jm_H → Prop} {x0 : Int32} : jm_w S 1 134 0 [.int x0] [] H Q = if x0 < (-1000000 : Int32) then jm_w S 1 134 18 [.int x0] [] H Q else jm_w S 1 134 7 [.int x0] [] H Q := (js1 at134_0 rfl rfl rfl).trans ((jskw at134_1 rv134l_302 rfl rfl).trans (jsif (P := x0 < (-1000000 : Int32)) at134_4 rfl rfl))
theorem at134_7 : jm_at 134 7 = some (.iload_n 0) := by decide +kernel
theorem at134_8 : jm_at 134 8 = some (.ldc_w 303) := by decide +kernel
theorem rv134l_303 : jm_rv 134 (.ldc_w 303) = (8, 0, 0, 1000000) := by decide +kernel
theorem at134_11 : jm_at 134 11 = some (.if_icmp .gt 7) := by decide +kernel
theorem u134_7 {S : Option (Nat × (Nat → Int32))} {H : jm_H} {Q : Option Value → jm_H → Prop} {x0 : Int32} : jm_w S 1 134 7 [.int x0] [] H Q = if (1000000 : Int32) < x0 then jm_w S 1 134 18 [.int x0] [] H Q else jm_w S 1 134 14 [.int x0] [] H Q := (js1 at134_7 rfl rfl rfl).trans ((jskw at134_8 rv134l_303 rfl rfl).trans (jsif (P := (1000000 : Int32) < x0) at134_11 rfl rfl))
theorem at134_14 : jm_at 134 14 = some (.iconst 1) := by decide +kernel
theorem at134_15 : jm_at 134 15 = some (.goto 4) := by decide +kernel
theorem u134_14 {S : Option (Nat × (Nat → Int32))} {H : jm_H} {Q : Option Value → jm_H → Prop} {x0 : Int32} : jm_w S 1 134 14 [.int x0] [] H Q = jm_w S 1 134 19 [.int x0] [.int (1 : Int32)] H Q := (jsci at134_14 rfl rfl).trans (js2 at134_15 rfl rfl)
theorem at134_18 : jm_at 134 18 = some (.iconst 0) := by decide +kernel
theorem u134_18 {S : Option (Nat × (Nat → Int32))} {H : jm_H} {Q : Option Value → jm_H → Prop} {x0 : Int32} : jm_w S 1 134 18 [.int x0] [] H Q = jm_w S 1 134 19 [.int x0] [.int (0 : Int32)] H Q := jsci at134_18 rfl rfl
theorem at134_19 : jm_at 134 19 = some (.ireturn) := by decide +kernel
theorem u134_19 {S : Option (Nat × (Nat → Int32))} {H : jm_H} {Q : Option Value → jm_H → Prop} {x0 p0 : Int32} (h0 : p0 = 0 ∨ p0 = 1) : jm_w S 1 134 19 [.int x0] [.int p0] H Q = Q (some (.int p0)) H := jsret_z at134_19 rfl h0
theorem en134 {S : Option (Nat × (Nat → Int32))} {H : jm_H} {Q : Option Value → jm_H → Prop} {x0 : Int32} : jm_c S 134 [.int x0] H Q = jm_w S 1 134 0 [.int x0] [] H Q := rfl
theorem at136_0 : jm_at 136 0 = some (.iload_n 1) := by decide +kernel
theorem at136_1 : jm_at 136 1 = some (.iload_n 2) := by decide +kernel
theorem at136_2 : jm_at 136 2 = some (.iload_n 3) := by decide +kernel
theorem at136_3 : jm_at 136 3 = some (.iload 4) := by decide +kernel
theorem at136_5 : jm_at 136 5 = some (.invokestatic 251) := by decide +kernel
theorem rv136i_251 : jm_rv 136 (.invokestatic 251) = (1, 115, 0, 0) := by decide +kernel
theorem u136_0 {S : Option (Nat × (Nat → Int32))} {H : jm_H} {Q : Option Value → jm_H → Prop} {r0 : Nat} {x1 x2 x3 x4 x5 : Int32} : jm_w S 7 136 0 [.ref r0, .int x1, .int x2, .int x3, .int x4, .int x5] [] H Q = jm_c S 115 [.int x1, .int x2, .int x3, .int x4] H (fun v G => jm_w S 7 136 8 [.ref r0, .int x1, .int x2, .int x3, .int x4, .int x5] (v.toList ++ []) G Q) := (js1 at136_0 rfl rfl rfl).trans ((js1 at136_1 rfl rfl rfl).trans ((js1 at136_2 rfl rfl rfl).trans ((js1 at136_3 rfl rfl rfl).trans (jscall (H := H) (as := [.int x1, .int x2, .int x3, .int x4]) (q := []) at136_5 rfl rv136i_251 (jscut rfl rfl rfl (Nat.le_of_ble_eq_true rfl)) rfl (Nat.le_of_ble_eq_true rfl) rfl rfl))))
theorem at136_8 : jm_at 136 8 = some (.ifCond .eq 13) := by decide +kernel
theorem u136_8 {S : Option (Nat × (Nat → Int32))} {H : jm_H} {Q : Option Value → jm_H → Prop} {r0 : Nat} {x1 x2 x3 x4 x5 p0 : Int32} : jm_w S 7 136 8 [.ref r0, .int x1, .int x2, .int x3, .int x4, .int x5] [.int p0] H Q = if p0 = 0 then jm_w S 7 136 21 [.ref r0, .int x1, .int x2, .int x3, .int x4, .int x5] [] H Q else jm_w S 7 136 11 [.ref r0, .int x1, .int x2, .int x3, .int x4, .int x5] [] H Q := jsif (P := p0 = 0) at136_8 rfl rfl
theorem at136_11 : jm_at 136 11 = some (.iload_n 1) := by decide +kernel
theorem at136_12 : jm_at 136 12 = some (.iload_n 2) := by decide +kernel
theorem at136_13 : jm_at 136 13 = some (.iload 5) := by decide +kernel
theorem at136_15 : jm_at 136 15 = some (.invokestatic 152) := by decide +kernel
theorem rv136i_152 : jm_rv 136 (.invokestatic 152) = (1, 99, 0, 0) := by decide +kernel
theorem u136_11 {S : Option (Nat × (Nat → Int32))} {H : jm_H} {Q : Option Value → jm_H → Prop} {r0 : Nat} {x1 x2 x3 x4 x5 : Int32} : jm_w S 7 136 11 [.ref r0, .int x1, .int x2, .int x3, .int x4, .int x5] [] H Q = jm_c S 99 [.int x1, .int x2, .int x5] H (fun v G => jm_w S 7 136 18 [.ref r0, .int x1, .int x2, .int x3, .int x4, .int x5] (v.toList ++ []) G Q) := (js1 at136_11 rfl rfl rfl).trans ((js1 at136_12 rfl rfl rfl).trans ((js1 at136_13 rfl rfl rfl).trans (jscall (H := H) (as := [.int x1, .int x2, .int x5]) (q := []) at136_15 rfl rv136i_152 (jscut rfl rfl rfl (Nat.le_of_ble_eq_true rfl)) rfl (Nat.le_of_ble_eq_true rfl) rfl rfl)))
theorem at136_18 : jm_at 136 18 = some (.ifCond .ne 5) := by decide +kernel
theorem u136_18 {S : Option (Nat × (Nat → Int32))} {H : jm_H} {Q : Option Value → jm_H → Prop} {r0 : Nat} {x1 x2 x3 x4 x5 p0 : Int32} : jm_w S 7 136 18 [.ref r0, .int x1, .int x2, .int x3, .int x4, .int x5] [.int p0] H Q = if ¬ p0 = 0 then jm_w S 7 136 23 [.ref r0, .int x1, .int x2, .int x3, .int x4, .int x5] [] H Q else jm_w S 7 136 21 [.ref r0, .int x1, .int x2, .int x3, .int x4, .int x5] [] H Q := jsif (P := ¬ p0 = 0) at136_18 rfl rfl
theorem at136_21 : jm_at 136 21 = some (.iconst (-1)) := by decide +kernel
theorem at136_22 : jm_at 136 22 = some (.ireturn) := by decide +kernel
theorem u136_21 {S : Option (Nat × (Nat → Int32))} {H : jm_H} {Q : Option Value → jm_H → Prop} {r0 : Nat} {x1 x2 x3 x4 x5 : Int32} : jm_w S 7 136 21 [.ref r0, .int x1, .int x2, .int x3, .int x4, .int x5] [] H Q = Q (some (.int (-1 : Int32))) H := (jsci at136_21 rfl rfl).trans (jsret_i at136_22 rfl)
theorem at136_23 : jm_at 136 23 = some (.aload_n 0) := by decide +kernel
theorem at136_24 : jm_at 136 24 = some (.getfield 32) := by decide +kernel
theorem rv136g_32 : jm_rv 136 (.getfield 32) = (0, 11, 3, 0) := by decide +kernel
theorem at136_27 : jm_at 136 27 = some (.iload_n 1) := by decide +kernel
theorem at136_28 : jm_at 136 28 = some (.iload_n 2) := by decide +kernel
theorem at136_29 : jm_at 136 29 = some (.iload_n 3) := by decide +kernel
theorem at136_30 : jm_at 136 30 = some (.iload 4) := by decide +kernel
theorem at136_32 : jm_at 136 32 = some (.iload 5) := by decide +kernel
theorem at136_34 : jm_at 136 34 = some (.invokevirtual 304) := by decide +kernel
theorem rv136i_304 : jm_rv 136 (.invokevirtual 304) = (2, 137, 0, 0) := by decide +kernel
theorem u136_23 {S : Option (Nat × (Nat → Int32))} {H : jm_H} {Q : Option Value → jm_H → Prop} {r0 : Nat} {x1 x2 x3 x4 x5 : Int32} (h0 : jm_tg H r0 = 12) (h1 : ¬ jm_R H r0 3 = 0) (h2 : jm_tg H (jm_R H r0 3) = 4) : jm_w S 7 136 23 [.ref r0, .int x1, .int x2, .int x3, .int x4, .int x5] [] H Q = jm_c S 137 [.ref (jm_R H r0 3), .int x1, .int x2, .int x3, .int x4, .int x5] H (fun v G => jm_w S 7 136 37 [.ref r0, .int x1, .int x2, .int x3, .int x4, .int x5] (v.toList ++ []) G Q) := (js1 at136_23 rfl rfl rfl).trans ((jsgR (H := H) at136_24 rv136g_32 rfl h0 h1 rfl).trans ((js1 at136_27 rfl rfl rfl).trans ((js1 at136_28 rfl rfl rfl).trans ((js1 at136_29 rfl rfl rfl).trans ((js1 at136_30 rfl rfl rfl).trans ((js1 at136_32 rfl rfl rfl).trans (jscall (H := H) (as := [.ref (jm_R H r0 3), .int x1, .int x2, .int x3, .int x4, .int x5]) (q := []) at136_34 rfl rv136i_304 (jscutV rfl rfl rfl (Nat.le_of_ble_eq_true rfl) rfl h2) rfl (Nat.le_of_ble_eq_true rfl) rfl rfl)))))))
theorem at136_37 : jm_at 136 37 = some (.ireturn) := by decide +kernel
theorem u136_37 {S : Option (Nat × (Nat → Int32))} {H : jm_H} {Q : Option Value → jm_H → Prop} {r0 : Nat} {x1 x2 x3 x4 x5 p0 : Int32} : jm_w S 7 136 37 [.ref r0, .int x1, .int x2, .int x3, .int x4, .int x5] [.int p0] H Q = Q (some (.int p0)) H := jsret_i at136_37 rfl
theorem en136 {S : Option (Nat × (Nat → Int32))} {H : jm_H} {Q : Option Value → jm_H → Prop} {r0 : Nat} {x1 x2 x3 x4 x5 : Int32} : jm_c S 136 [.ref r0, .int x1, .int x2, .int x3, .int x4, .int x5] H Q = jm_w S 7 136 0 [.ref r0, .int x1, .int x2, .int x3, .int x4, .int x5] [] H Q := rfl
theorem at138_0 : jm_at 138 0 = some (.iload_n 1) := by decide +kernel
theorem at138_1 : jm_at 138 1 = some (.iload_n 2) := by decide +kernel
theorem at138_2 : jm_at 138 2 = some (.iload_n 3) := by decide +kernel
theorem at138_3 : jm_at 138 3 = some (.iload 4) := by decide +kernel
theorem at138_5 : jm_at 138 5 = some (.invokestatic 251) := by decide +kernel
theorem rv138i_251 : jm_rv 138 (.invokestatic 251) = (1, 115, 0, 0) := by decide +kernel
theorem u138_0 {S : Option (Nat × (Nat → Int32))} {H : jm_H} {Q : Option Value → jm_H → Prop} {r0 : Nat} {x1 x2 x3 x4 x5 : Int32} : jm_w S 8 138 0 [.ref r0, .int x1, .int x2, .int x3, .int x4, .int x5, .null, .null, .null, .null] [] H Q = jm_c S 115 [.int x1, .int x2, .int x3, .int x4] H (fun v G => jm_w S 8 138 8 [.ref r0, .int x1, .int x2, .int x3, .int x4, .int x5, .null, .null, .null, .null] (v.toList ++ []) G Q) := (js1 at138_0 rfl rfl rfl).trans ((js1 at138_1 rfl rfl rfl).trans ((js1 at138_2 rfl rfl rfl).trans ((js1 at138_3 rfl rfl rfl).trans (jscall (H := H) (as := [.int x1, .int x2, .int x3, .int x4]) (q := []) at138_5 rfl rv138i_251 (jscut rfl rfl rfl (Nat.le_of_ble_eq_true rfl)) rfl (Nat.le_of_ble_eq_true rfl) rfl rfl))))
theorem at138_8 : jm_at 138 8 = some (.ifCond .eq 14) := by decide +kernel
theorem u138_8 {S : Option (Nat × (Nat → Int32))} {H : jm_H} {Q : Option Value → jm_H → Prop} {r0 : Nat} {x1 x2 x3 x4 x5 p0 : Int32} : jm_w S 8 138 8 [.ref r0, .int x1, .int x2, .int x3, .int x4, .int x5, .null, .null, .null, .null] [.int p0] H Q = if p0 = 0 then jm_w S 8 138 22 [.ref r0, .int x1, .int x2, .int x3, .int x4, .int x5, .null, .null, .null, .null] [] H Q else jm_w S 8 138 11 [.ref r0, .int x1, .int x2, .int x3, .int x4, .int x5, .null, .null, .null, .null] [] H Q := jsif (P := p0 = 0) at138_8 rfl rfl
theorem at138_11 : jm_at 138 11 = some (.iload 5) := by decide +kernel
theorem at138_13 : jm_at 138 13 = some (.ifCond .lt 9) := by decide +kernel
theorem u138_11 {S : Option (Nat × (Nat → Int32))} {H : jm_H} {Q : Option Value → jm_H → Prop} {r0 : Nat} {x1 x2 x3 x4 x5 : Int32} : jm_w S 8 138 11 [.ref r0, .int x1, .int x2, .int x3, .int x4, .int x5, .null, .null, .null, .null] [] H Q = if x5 < 0 then jm_w S 8 138 22 [.ref r0, .int x1, .int x2, .int x3, .int x4, .int x5, .null, .null, .null, .null] [] H Q else jm_w S 8 138 16 [.ref r0, .int x1, .int x2, .int x3, .int x4, .int x5, .null, .null, .null, .null] [] H Q := (js1 at138_11 rfl rfl rfl).trans (jsif (P := x5 < 0) at138_13 rfl rfl)
theorem at138_16 : jm_at 138 16 = some (.iload 5) := by decide +kernel
theorem at138_18 : jm_at 138 18 = some (.iconst 2) := by decide +kernel
theorem at138_19 : jm_at 138 19 = some (.if_icmp .le 5) := by decide +kernel
theorem u138_16 {S : Option (Nat × (Nat → Int32))} {H : jm_H} {Q : Option Value → jm_H → Prop} {r0 : Nat} {x1 x2 x3 x4 x5 : Int32} : jm_w S 8 138 16 [.ref r0, .int x1, .int x2, .int x3, .int x4, .int x5, .null, .null, .null, .null] [] H Q = if x5 ≤ (2 : Int32) then jm_w S 8 138 24 [.ref r0, .int x1, .int x2, .int x3, .int x4, .int x5, .null, .null, .null, .null] [] H Q else jm_w S 8 138 22 [.ref r0, .int x1, .int x2, .int x3, .int x4, .int x5, .null, .null, .null, .null] [] H Q := (js1 at138_16 rfl rfl rfl).trans ((jsci at138_18 rfl rfl).trans (jsif (P := x5 ≤ (2 : Int32)) at138_19 rfl rfl))
theorem at138_22 : jm_at 138 22 = some (.iconst (-1)) := by decide +kernel
theorem at138_23 : jm_at 138 23 = some (.ireturn) := by decide +kernel
theorem u138_22 {S : Option (Nat × (Nat → Int32))} {H : jm_H} {Q : Option Value → jm_H → Prop} {r0 : Nat} {x1 x2 x3 x4 x5 : Int32} : jm_w S 8 138 22 [.ref r0, .int x1, .int x2, .int x3, .int x4, .int x5, .null, .null, .null, .null] [] H Q = Q (some (.int (-1 : Int32))) H := (jsci at138_22 rfl rfl).trans (jsret_i at138_23 rfl)
theorem at138_24 : jm_at 138 24 = some (.aload_n 0) := by decide +kernel
theorem at138_25 : jm_at 138 25 = some (.getfield 72) := by decide +kernel
theorem rv138g_72 : jm_rv 138 (.getfield 72) = (0, 11, 11, 0) := by decide +kernel
theorem at138_28 : jm_at 138 28 = some (.iconst (-1)) := by decide +kernel
theorem at138_29 : jm_at 138 29 = some (.invokestatic 78) := by decide +kernel
theorem rv138i_78 : jm_rv 138 (.invokestatic 78) = (1, 12, 0, 0) := by decide +kernel
theorem u138_24 {S : Option (Nat × (Nat → Int32))} {H : jm_H} {Q : Option Value → jm_H → Prop} {r0 : Nat} {x1 x2 x3 x4 x5 : Int32} (h0 : jm_tg H r0 = 12) (h1 : ¬ jm_R H r0 11 = 0) : jm_w S 8 138 24 [.ref r0, .int x1, .int x2, .int x3, .int x4, .int x5, .null, .null, .null, .null] [] H Q = jm_c S 12 [.ref (jm_R H r0 11), .int (-1 : Int32)] H (fun v G => jm_w S 8 138 32 [.ref r0, .int x1, .int x2, .int x3, .int x4, .int x5, .null, .null, .null, .null] (v.toList ++ []) G Q) := (js1 at138_24 rfl rfl rfl).trans ((jsgR (H := H) at138_25 rv138g_72 rfl h0 h1 rfl).trans ((jsci at138_28 rfl rfl).trans (jscall (H := H) (as := [.ref (jm_R H r0 11), .int (-1 : Int32)]) (q := []) at138_29 rfl rv138i_78 (jscut rfl rfl rfl (Nat.le_of_ble_eq_true rfl)) rfl (Nat.le_of_ble_eq_true rfl) rfl rfl)))
theorem at138_32 : jm_at 138 32 = some (.iload 4) := by decide +kernel
theorem at138_34 : jm_at 138 34 = some (.istore 6) := by decide +kernel
theorem at138_36 : jm_at 138 36 = some (.iconst 0) := by decide +kernel
theorem at138_37 : jm_at 138 37 = some (.istore 7) := by decide +kernel
theorem at138_39 : jm_at 138 39 = some (.iconst (-1)) := by decide +kernel
theorem at138_40 : jm_at 138 40 = some (.istore 8) := by decide +kernel
theorem at138_42 : jm_at 138 42 = some (.iconst 0) := by decide +kernel
theorem at138_43 : jm_at 138 43 = some (.istore 9) := by decide +kernel
theorem u138_32 {S : Option (Nat × (Nat → Int32))} {H : jm_H} {Q : Option Value → jm_H → Prop} {r0 : Nat} {x1 x2 x3 x4 x5 : Int32} : jm_w S 8 138 32 [.ref r0, .int x1, .int x2, .int x3, .int x4, .int x5, .null, .null, .null, .null] [] H Q = jm_w S 8 138 45 [.ref r0, .int x1, .int x2, .int x3, .int x4, .int x5, .int x4, .int (0 : Int32), .int (-1 : Int32), .int (0 : Int32)] [] H Q := (js1 at138_32 rfl rfl rfl).trans ((js1 at138_34 rfl rfl rfl).trans ((jsci at138_36 rfl rfl).trans ((js1 at138_37 rfl rfl rfl).trans ((jsci at138_39 rfl rfl).trans ((js1 at138_40 rfl rfl rfl).trans ((jsci at138_42 rfl rfl).trans (js1 at138_43 rfl rfl rfl)))))))
theorem at138_45 : jm_at 138 45 = some (.iload 7) := by decide +kernel
theorem at138_47 : jm_at 138 47 = some (.sipush 4096) := by decide +kernel
theorem at138_50 : jm_at 138 50 = some (.if_icmp .gt 91) := by decide +kernel
theorem u138_45 {S : Option (Nat × (Nat → Int32))} {H : jm_H} {Q : Option Value → jm_H → Prop} {r0 : Nat} {x1 x2 x3 x4 x5 x6 x7 x8 x9 : Int32} : jm_w S 8 138 45 [.ref r0, .int x1, .int x2, .int x3, .int x4, .int x5, .int x6, .int x7, .int x8, .int x9] [] H Q = if (4096 : Int32) < x7 then jm_w S 8 138 141 [.ref r0, .int x1, .int x2, .int x3, .int x4, .int x5, .int x6, .int x7, .int x8, .int x9] [] H Q else jm_w S 8 138 53 [.ref r0, .int x1, .int x2, .int x3, .int x4, .int x5, .int x6, .int x7, .int x8, .int x9] [] H Q := (js1 at138_45 rfl rfl rfl).trans ((jscs at138_47 rfl rfl).trans (jsif (P := (4096 : Int32) < x7) at138_50 rfl rfl))
theorem at138_53 : jm_at 138 53 = some (.iload 8) := by decide +kernel
theorem at138_55 : jm_at 138 55 = some (.iconst (-1)) := by decide +kernel
theorem at138_56 : jm_at 138 56 = some (.if_icmp .ne 85) := by decide +kernel
theorem u138_53 {S : Option (Nat × (Nat → Int32))} {H : jm_H} {Q : Option Value → jm_H → Prop} {r0 : Nat} {x1 x2 x3 x4 x5 x6 x7 x8 x9 : Int32} : jm_w S 8 138 53 [.ref r0, .int x1, .int x2, .int x3, .int x4, .int x5, .int x6, .int x7, .int x8, .int x9] [] H Q = if ¬ x8 = (-1 : Int32) then jm_w S 8 138 141 [.ref r0, .int x1, .int x2, .int x3, .int x4, .int x5, .int x6, .int x7, .int x8, .int x9] [] H Q else jm_w S 8 138 59 [.ref r0, .int x1, .int x2, .int x3, .int x4, .int x5, .int x6, .int x7, .int x8, .int x9] [] H Q := (js1 at138_53 rfl rfl rfl).trans ((jsci at138_55 rfl rfl).trans (jsif (P := ¬ x8 = (-1 : Int32)) at138_56 rfl rfl))
theorem at138_59 : jm_at 138 59 = some (.iload 9) := by decide +kernel
theorem at138_61 : jm_at 138 61 = some (.ifCond .ne 80) := by decide +kernel
theorem u138_59 {S : Option (Nat × (Nat → Int32))} {H : jm_H} {Q : Option Value → jm_H → Prop} {r0 : Nat} {x1 x2 x3 x4 x5 x6 x7 x8 x9 : Int32} : jm_w S 8 138 59 [.ref r0, .int x1, .int x2, .int x3, .int x4, .int x5, .int x6, .int x7, .int x8, .int x9] [] H Q = if ¬ x9 = 0 then jm_w S 8 138 141 [.ref r0, .int x1, .int x2, .int x3, .int x4, .int x5, .int x6, .int x7, .int x8, .int x9] [] H Q else jm_w S 8 138 64 [.ref r0, .int x1, .int x2, .int x3, .int x4, .int x5, .int x6, .int x7, .int x8, .int x9] [] H Q := (js1 at138_59 rfl rfl rfl).trans (jsif (P := ¬ x9 = 0) at138_61 rfl rfl)
theorem at138_64 : jm_at 138 64 = some (.iload 6) := by decide +kernel
theorem at138_66 : jm_at 138 66 = some (.ifCond .lt 75) := by decide +kernel
theorem u138_64 {S : Option (Nat × (Nat → Int32))} {H : jm_H} {Q : Option Value → jm_H → Prop} {r0 : Nat} {x1 x2 x3 x4 x5 x6 x7 x8 x9 : Int32} : jm_w S 8 138 64 [.ref r0, .int x1, .int x2, .int x3, .int x4, .int x5, .int x6, .int x7, .int x8, .int x9] [] H Q = if x6 < 0 then jm_w S 8 138 141 [.ref r0, .int x1, .int x2, .int x3, .int x4, .int x5, .int x6, .int x7, .int x8, .int x9] [] H Q else jm_w S 8 138 69 [.ref r0, .int x1, .int x2, .int x3, .int x4, .int x5, .int x6, .int x7, .int x8, .int x9] [] H Q := (js1 at138_64 rfl rfl rfl).trans (jsif (P := x6 < 0) at138_66 rfl rfl)
theorem at138_69 : jm_at 138 69 = some (.iload 6) := by decide +kernel
theorem at138_71 : jm_at 138 71 = some (.aload_n 0) := by decide +kernel
theorem at138_72 : jm_at 138 72 = some (.getfield 72) := by decide +kernel
theorem at138_75 : jm_at 138 75 = some (.arraylength) := by decide +kernel
theorem at138_76 : jm_at 138 76 = some (.if_icmp .ge 65) := by decide +kernel
theorem u138_69 {S : Option (Nat × (Nat → Int32))} {H : jm_H} {Q : Option Value → jm_H → Prop} {r0 : Nat} {x1 x2 x3 x4 x5 x6 x7 x8 x9 : Int32} (h0 : jm_tg H r0 = 12) (h1 : ¬ jm_R H r0 11 = 0) (h2 : ¬ (jm_R H r0 11) = 1) (h3 : 100 ≤ jm_tg H (jm_R H r0 11)) : jm_w S 8 138 69 [.ref r0, .int x1, .int x2, .int x3, .int x4, .int x5, .int x6, .int x7, .int x8, .int x9] [] H Q = if (Int32.ofNat (jm_ln H (jm_R H r0 11))) ≤ x6 then jm_w S 8 138 141 [.ref r0, .int x1, .int x2, .int x3, .int x4, .int x5, .int x6, .int x7, .int x8, .int x9] [] H Q else jm_w S 8 138 79 [.ref r0, .int x1, .int x2, .int x3, .int x4, .int x5, .int x6, .int x7, .int x8, .int x9] [] H Q := (js1 at138_69 rfl rfl rfl).trans ((js1 at138_71 rfl rfl rfl).trans ((jsgR (H := H) at138_72 rv138g_72 rfl h0 h1 rfl).trans ((jsaln (H := H) at138_75 h2 h3 rfl).trans (jsif (P := (Int32.ofNat (jm_ln H (jm_R H r0 11))) ≤ x6) at138_76 rfl rfl))))
theorem at138_79 : jm_at 138 79 = some (.aload_n 0) := by decide +kernel
theorem at138_80 : jm_at 138 80 = some (.getfield 72) := by decide +kernel
theorem at138_83 : jm_at 138 83 = some (.iload 6) := by decide +kernel
theorem at138_85 : jm_at 138 85 = some (.iload 7) := by decide +kernel
theorem at138_87 : jm_at 138 87 = some (.iastore) := by decide +kernel
theorem at138_88 : jm_at 138 88 = some (.aload_n 0) := by decide +kernel
theorem at138_89 : jm_at 138 89 = some (.iload_n 1) := by decide +kernel
theorem at138_90 : jm_at 138 90 = some (.iload_n 2) := by decide +kernel
theorem at138_91 : jm_at 138 91 = some (.iload_n 3) := by decide +kernel
theorem at138_92 : jm_at 138 92 = some (.iload 6) := by decide +kernel
theorem at138_94 : jm_at 138 94 = some (.invokevirtual 307) := by decide +kernel
theorem rv138i_307 : jm_rv 138 (.invokevirtual 307) = (2, 139, 0, 0) := by decide +kernel
theorem u138_79 {S : Option (Nat × (Nat → Int32))} {H : jm_H} {Q : Option Value → jm_H → Prop} {r0 : Nat} {x1 x2 x3 x4 x5 x6 x7 x8 x9 : Int32} (h0 : jm_tg H r0 = 12) (h1 : ¬ jm_R H r0 11 = 0) (h2 : ¬ (x6 < 0 ∨ jm_ln H (jm_R H r0 11) ≤ Int32.toNatClampNeg x6)) (h3 : jm_tg H (jm_R H r0 11) = 100) : jm_w S 8 138 79 [.ref r0, .int x1, .int x2, .int x3, .int x4, .int x5, .int x6, .int x7, .int x8, .int x9] [] H Q = jm_c S 139 [.ref r0, .int x1, .int x2, .int x3, .int x6] (jm_pI H (jm_R H r0 11) (Int32.toNatClampNeg x6) x7) (fun v G => jm_w S 8 138 97 [.ref r0, .int x1, .int x2, .int x3, .int x4, .int x5, .int x6, .int x7, .int x8, .int x9] (v.toList ++ []) G Q) := (js1 at138_79 rfl rfl rfl).trans ((jsgR (H := H) at138_80 rv138g_72 rfl h0 h1 rfl).trans ((js1 at138_83 rfl rfl rfl).trans ((js1 at138_85 rfl rfl rfl).trans ((jsias (H := H) at138_87 h3 h2 rfl).trans ((js1 at138_88 rfl rfl rfl).trans ((js1 at138_89 rfl rfl rfl).trans ((js1 at138_90 rfl rfl rfl).trans ((js1 at138_91 rfl rfl rfl).trans ((js1 at138_92 rfl rfl rfl).trans (jscall (H := (jm_pI H (jm_R H r0 11) (Int32.toNatClampNeg x6) x7)) (as := [.ref r0, .int x1, .int x2, .int x3, .int x6]) (q := []) at138_94 rfl rv138i_307 (jscutV rfl rfl rfl (Nat.le_of_ble_eq_true rfl) rfl h0) rfl (Nat.le_of_ble_eq_true rfl) rfl rfl))))))))))
theorem at138_97 : jm_at 138 97 = some (.istore 6) := by decide +kernel
theorem at138_99 : jm_at 138 99 = some (.iinc 7 1) := by decide +kernel
theorem at138_102 : jm_at 138 102 = some (.iload_n 1) := by decide +kernel
theorem at138_103 : jm_at 138 103 = some (.iload 6) := by decide +kernel
theorem at138_105 : jm_at 138 105 = some (.invokestatic 197) := by decide +kernel
theorem rv138i_197 : jm_rv 138 (.invokestatic 197) = (1, 69, 0, 0) := by decide +kernel
theorem u138_97 {S : Option (Nat × (Nat → Int32))} {H : jm_H} {Q : Option Value → jm_H → Prop} {r0 : Nat} {x1 x2 x3 x4 x5 x6 x7 x8 x9 p0 : Int32} : jm_w S 8 138 97 [.ref r0, .int x1, .int x2, .int x3, .int x4, .int x5, .int x6, .int x7, .int x8, .int x9] [.int p0] H Q = jm_c S 69 [.int x1, .int p0] H (fun v G => jm_w S 8 138 108 [.ref r0, .int x1, .int x2, .int x3, .int x4, .int x5, .int p0, .int (x7 + 1), .int x8, .int x9] (v.toList ++ []) G Q) := (js1 at138_97 rfl rfl rfl).trans ((jsinc at138_99 rfl rfl rfl).trans ((js1 at138_102 rfl rfl rfl).trans ((js1 at138_103 rfl rfl rfl).trans (jscall (H := H) (as := [.int x1, .int p0]) (q := []) at138_105 rfl rv138i_197 (jscut rfl rfl rfl (Nat.le_of_ble_eq_true rfl)) rfl (Nat.le_of_ble_eq_true rfl) rfl rfl))))
theorem at138_108 : jm_at 138 108 = some (.istore 9) := by decide +kernel
theorem at138_110 : jm_at 138 110 = some (.iload 6) := by decide +kernel
theorem at138_112 : jm_at 138 112 = some (.ifCond .lt 13) := by decide +kernel
theorem u138_108 {S : Option (Nat × (Nat → Int32))} {H : jm_H} {Q : Option Value → jm_H → Prop} {r0 : Nat} {x1 x2 x3 x4 x5 x6 x7 x8 x9 p0 : Int32} : jm_w S 8 138 108 [.ref r0, .int x1, .int x2, .int x3, .int x4, .int x5, .int x6, .int x7, .int x8, .int x9] [.int p0] H Q = if x6 < 0 then jm_w S 8 138 125 [.ref r0, .int x1, .int x2, .int x3, .int x4, .int x5, .int x6, .int x7, .int x8, .int p0] [] H Q else jm_w S 8 138 115 [.ref r0, .int x1, .int x2, .int x3, .int x4, .int x5, .int x6, .int x7, .int x8, .int p0] [] H Q := (js1 at138_108 rfl rfl rfl).trans ((js1 at138_110 rfl rfl rfl).trans (jsif (P := x6 < 0) at138_112 rfl rfl))
theorem at138_115 : jm_at 138 115 = some (.iload 6) := by decide +kernel
theorem at138_117 : jm_at 138 117 = some (.aload_n 0) := by decide +kernel
theorem at138_118 : jm_at 138 118 = some (.getfield 72) := by decide +kernel
theorem at138_121 : jm_at 138 121 = some (.arraylength) := by decide +kernel
theorem at138_122 : jm_at 138 122 = some (.if_icmp .lt 7) := by decide +kernel
theorem u138_115 {S : Option (Nat × (Nat → Int32))} {H : jm_H} {Q : Option Value → jm_H → Prop} {r0 : Nat} {x1 x2 x3 x4 x5 x6 x7 x8 x9 : Int32} (h0 : jm_tg H r0 = 12) (h1 : ¬ jm_R H r0 11 = 0) (h2 : ¬ (jm_R H r0 11) = 1) (h3 : 100 ≤ jm_tg H (jm_R H r0 11)) : jm_w S 8 138 115 [.ref r0, .int x1, .int x2, .int x3, .int x4, .int x5, .int x6, .int x7, .int x8, .int x9] [] H Q = if x6 < (Int32.ofNat (jm_ln H (jm_R H r0 11))) then jm_w S 8 138 129 [.ref r0, .int x1, .int x2, .int x3, .int x4, .int x5, .int x6, .int x7, .int x8, .int x9] [] H Q else jm_w S 8 138 125 [.ref r0, .int x1, .int x2, .int x3, .int x4, .int x5, .int x6, .int x7, .int x8, .int x9] [] H Q := (js1 at138_115 rfl rfl rfl).trans ((js1 at138_117 rfl rfl rfl).trans ((jsgR (H := H) at138_118 rv138g_72 rfl h0 h1 rfl).trans ((jsaln (H := H) at138_121 h2 h3 rfl).trans (jsif (P := x6 < (Int32.ofNat (jm_ln H (jm_R H r0 11)))) at138_122 rfl rfl))))
theorem at138_125 : jm_at 138 125 = some (.iconst (-1)) := by decide +kernel
theorem at138_126 : jm_at 138 126 = some (.goto 10) := by decide +kernel
theorem u138_125 {S : Option (Nat × (Nat → Int32))} {H : jm_H} {Q : Option Value → jm_H → Prop} {r0 : Nat} {x1 x2 x3 x4 x5 x6 x7 x8 x9 : Int32} : jm_w S 8 138 125 [.ref r0, .int x1, .int x2, .int x3, .int x4, .int x5, .int x6, .int x7, .int x8, .int x9] [] H Q = jm_w S 8 138 136 [.ref r0, .int x1, .int x2, .int x3, .int x4, .int x5, .int x6, .int x7, .int x8, .int x9] [.int (-1 : Int32)] H Q := (jsci at138_125 rfl rfl).trans (js2 at138_126 rfl rfl)
theorem at138_129 : jm_at 138 129 = some (.aload_n 0) := by decide +kernel
theorem at138_130 : jm_at 138 130 = some (.getfield 72) := by decide +kernel
theorem at138_133 : jm_at 138 133 = some (.iload 6) := by decide +kernel
theorem at138_135 : jm_at 138 135 = some (.iaload) := by decide +kernel
theorem u138_129 {S : Option (Nat × (Nat → Int32))} {H : jm_H} {Q : Option Value → jm_H → Prop} {r0 : Nat} {x1 x2 x3 x4 x5 x6 x7 x8 x9 : Int32} (h0 : jm_tg H r0 = 12) (h1 : ¬ jm_R H r0 11 = 0) (h2 : ¬ (x6 < 0 ∨ jm_ln H (jm_R H r0 11) ≤ Int32.toNatClampNeg x6)) (h3 : ¬ (jm_R H r0 11) = 1) (h4 : jm_tg H (jm_R H r0 11) = 100) : jm_w S 8 138 129 [.ref r0, .int x1, .int x2, .int x3, .int x4, .int x5, .int x6, .int x7, .int x8, .int x9] [] H Q = jm_w S 8 138 136 [.ref r0, .int x1, .int x2, .int x3, .int x4, .int x5, .int x6, .int x7, .int x8, .int x9] [.int (jm_I H (jm_R H r0 11) (Int32.toNatClampNeg x6))] H Q := (js1 at138_129 rfl rfl rfl).trans ((jsgR (H := H) at138_130 rv138g_72 rfl h0 h1 rfl).trans ((js1 at138_133 rfl rfl rfl).trans (jsial (H := H) at138_135 h3 h4 h2 rfl)))
theorem at138_136 : jm_at 138 136 = some (.istore 8) := by decide +kernel
theorem at138_138 : jm_at 138 138 = some (.goto (-93)) := by decide +kernel
theorem u138_136 {S : Option (Nat × (Nat → Int32))} {H : jm_H} {Q : Option Value → jm_H → Prop} {r0 : Nat} {x1 x2 x3 x4 x5 x6 x7 x8 x9 p0 : Int32} : jm_w S 8 138 136 [.ref r0, .int x1, .int x2, .int x3, .int x4, .int x5, .int x6, .int x7, .int x8, .int x9] [.int p0] H Q = jm_w S 8 138 45 [.ref r0, .int x1, .int x2, .int x3, .int x4, .int x5, .int x6, .int x7, .int p0, .int x9] [] H Q := (js1 at138_136 rfl rfl rfl).trans (js2 at138_138 rfl rfl)
theorem at138_141 : jm_at 138 141 = some (.iload 5) := by decide +kernel
theorem at138_143 : jm_at 138 143 = some (.ifCond .ne 6) := by decide +kernel
theorem u138_141 {S : Option (Nat × (Nat → Int32))} {H : jm_H} {Q : Option Value → jm_H → Prop} {r0 : Nat} {x1 x2 x3 x4 x5 x6 x7 x8 x9 : Int32} : jm_w S 8 138 141 [.ref r0, .int x1, .int x2, .int x3, .int x4, .int x5, .int x6, .int x7, .int x8, .int x9] [] H Q = if ¬ x5 = 0 then jm_w S 8 138 149 [.ref r0, .int x1, .int x2, .int x3, .int x4, .int x5, .int x6, .int x7, .int x8, .int x9] [] H Q else jm_w S 8 138 146 [.ref r0, .int x1, .int x2, .int x3, .int x4, .int x5, .int x6, .int x7, .int x8, .int x9] [] H Q := (js1 at138_141 rfl rfl rfl).trans (jsif (P := ¬ x5 = 0) at138_143 rfl rfl)
theorem at138_146 : jm_at 138 146 = some (.iload 7) := by decide +kernel
theorem at138_148 : jm_at 138 148 = some (.ireturn) := by decide +kernel
theorem u138_146 {S : Option (Nat × (Nat → Int32))} {H : jm_H} {Q : Option Value → jm_H → Prop} {r0 : Nat} {x1 x2 x3 x4 x5 x6 x7 x8 x9 : Int32} : jm_w S 8 138 146 [.ref r0, .int x1, .int x2, .int x3, .int x4, .int x5, .int x6, .int x7, .int x8, .int x9] [] H Q = Q (some (.int x7)) H := (js1 at138_146 rfl rfl rfl).trans (jsret_i at138_148 rfl)
theorem at138_149 : jm_at 138 149 = some (.iload 5) := by decide +kernel
theorem at138_151 : jm_at 138 151 = some (.iconst 1) := by decide +kernel
theorem at138_152 : jm_at 138 152 = some (.if_icmp .ne 6) := by decide +kernel
theorem u138_149 {S : Option (Nat × (Nat → Int32))} {H : jm_H} {Q : Option Value → jm_H → Prop} {r0 : Nat} {x1 x2 x3 x4 x5 x6 x7 x8 x9 : Int32} : jm_w S 8 138 149 [.ref r0, .int x1, .int x2, .int x3, .int x4, .int x5, .int x6, .int x7, .int x8, .int x9] [] H Q = if ¬ x5 = (1 : Int32) then jm_w S 8 138 158 [.ref r0, .int x1, .int x2, .int x3, .int x4, .int x5, .int x6, .int x7, .int x8, .int x9] [] H Q else jm_w S 8 138 155 [.ref r0, .int x1, .int x2, .int x3, .int x4, .int x5, .int x6, .int x7, .int x8, .int x9] [] H Q := (js1 at138_149 rfl rfl rfl).trans ((jsci at138_151 rfl rfl).trans (jsif (P := ¬ x5 = (1 : Int32)) at138_152 rfl rfl))
theorem at138_155 : jm_at 138 155 = some (.iload 6) := by decide +kernel
theorem at138_157 : jm_at 138 157 = some (.ireturn) := by decide +kernel
theorem u138_155 {S : Option (Nat × (Nat → Int32))} {H : jm_H} {Q : Option Value → jm_H → Prop} {r0 : Nat} {x1 x2 x3 x4 x5 x6 x7 x8 x9 : Int32} : jm_w S 8 138 155 [.ref r0, .int x1, .int x2, .int x3, .int x4, .int x5, .int x6, .int x7, .int x8, .int x9] [] H Q = Q (some (.int x6)) H := (js1 at138_155 rfl rfl rfl).trans (jsret_i at138_157 rfl)
theorem at138_158 : jm_at 138 158 = some (.iload 9) := by decide +kernel
theorem at138_160 : jm_at 138 160 = some (.ifCond .eq 7) := by decide +kernel
theorem u138_158 {S : Option (Nat × (Nat → Int32))} {H : jm_H} {Q : Option Value → jm_H → Prop} {r0 : Nat} {x1 x2 x3 x4 x5 x6 x7 x8 x9 : Int32} : jm_w S 8 138 158 [.ref r0, .int x1, .int x2, .int x3, .int x4, .int x5, .int x6, .int x7, .int x8, .int x9] [] H Q = if x9 = 0 then jm_w S 8 138 167 [.ref r0, .int x1, .int x2, .int x3, .int x4, .int x5, .int x6, .int x7, .int x8, .int x9] [] H Q else jm_w S 8 138 163 [.ref r0, .int x1, .int x2, .int x3, .int x4, .int x5, .int x6, .int x7, .int x8, .int x9] [] H Q := (js1 at138_158 rfl rfl rfl).trans (jsif (P := x9 = 0) at138_160 rfl rfl)
theorem at138_163 : jm_at 138 163 = some (.iconst 0) := by decide +kernel
theorem at138_164 : jm_at 138 164 = some (.goto 8) := by decide +kernel
theorem u138_163 {S : Option (Nat × (Nat → Int32))} {H : jm_H} {Q : Option Value → jm_H → Prop} {r0 : Nat} {x1 x2 x3 x4 x5 x6 x7 x8 x9 : Int32} : jm_w S 8 138 163 [.ref r0, .int x1, .int x2, .int x3, .int x4, .int x5, .int x6, .int x7, .int x8, .int x9] [] H Q = jm_w S 8 138 172 [.ref r0, .int x1, .int x2, .int x3, .int x4, .int x5, .int x6, .int x7, .int x8, .int x9] [.int (0 : Int32)] H Q := (jsci at138_163 rfl rfl).trans (js2 at138_164 rfl rfl)
theorem at138_167 : jm_at 138 167 = some (.iload 7) := by decide +kernel
theorem at138_169 : jm_at 138 169 = some (.iload 8) := by decide +kernel
theorem at138_171 : jm_at 138 171 = some (.isub) := by decide +kernel
theorem u138_167 {S : Option (Nat × (Nat → Int32))} {H : jm_H} {Q : Option Value → jm_H → Prop} {r0 : Nat} {x1 x2 x3 x4 x5 x6 x7 x8 x9 : Int32} : jm_w S 8 138 167 [.ref r0, .int x1, .int x2, .int x3, .int x4, .int x5, .int x6, .int x7, .int x8, .int x9] [] H Q = jm_w S 8 138 172 [.ref r0, .int x1, .int x2, .int x3, .int x4, .int x5, .int x6, .int x7, .int x8, .int x9] [.int (x7 - x8)] H Q := (js1 at138_167 rfl rfl rfl).trans ((js1 at138_169 rfl rfl rfl).trans (js0 at138_171 rfl rfl rfl))
theorem at138_172 : jm_at 138 172 = some (.ireturn) := by decide +kernel
theorem u138_172 {S : Option (Nat × (Nat → Int32))} {H : jm_H} {Q : Option Value → jm_H → Prop} {r0 : Nat} {x1 x2 x3 x4 x5 x6 x7 x8 x9 p0 : Int32} : jm_w S 8 138 172 [.ref r0, .int x1, .int x2, .int x3, .int x4, .int x5, .int x6, .int x7, .int x8, .int x9] [.int p0] H Q = Q (some (.int p0)) H := jsret_i at138_172 rfl
theorem en138 {S : Option (Nat × (Nat → Int32))} {H : jm_H} {Q : Option Value → jm_H → Prop} {r0 : Nat} {x1 x2 x3 x4 x5 : Int32} : jm_c S 138 [.ref r0, .int x1, .int x2, .int x3, .int x4, .int x5] H Q = jm_w S 8 138 0 [.ref r0, .int x1, .int x2, .int x3, .int x4, .int x5, .null, .null, .null, .null] [] H Q := rfl
theorem at139_0 : jm_at 139 0 = some (.aload_n 0) := by decide +kernel
theorem at139_1 : jm_at 139 1 = some (.getfield 32) := by decide +kernel
theorem rv139g_32 : jm_rv 139 (.getfield 32) = (0, 11, 3, 0) := by decide +kernel
theorem at139_4 : jm_at 139 4 = some (.iload_n 1) := by decide +kernel
theorem at139_5 : jm_at 139 5 = some (.iload_n 2) := by decide +kernel
theorem at139_6 : jm_at 139 6 = some (.iload_n 3) := by decide +kernel
theorem at139_7 : jm_at 139 7 = some (.iload 4) := by decide +kernel
theorem at139_9 : jm_at 139 9 = some (.iconst 3) := by decide +kernel
theorem at139_10 : jm_at 139 10 = some (.invokevirtual 278) := by decide +kernel
theorem rv139i_278 : jm_rv 139 (.invokevirtual 278) = (2, 87, 0, 0) := by decide +kernel
theorem u139_0 {S : Option (Nat × (Nat → Int32))} {H : jm_H} {Q : Option Value → jm_H → Prop} {r0 : Nat} {x1 x2 x3 x4 : Int32} (h0 : jm_tg H r0 = 12) (h1 : ¬ jm_R H r0 3 = 0) (h2 : jm_tg H (jm_R H r0 3) = 4) : jm_w S 7 139 0 [.ref r0, .int x1, .int x2, .int x3, .int x4, .null] [] H Q = jm_c S 87 [.ref (jm_R H r0 3), .int x1, .int x2, .int x3, .int x4, .int (3 : Int32)] H (fun v G => jm_w S 7 139 13 [.ref r0, .int x1, .int x2, .int x3, .int x4, .null] (v.toList ++ []) G Q) := (js1 at139_0 rfl rfl rfl).trans ((jsgR (H := H) at139_1 rv139g_32 rfl h0 h1 rfl).trans ((js1 at139_4 rfl rfl rfl).trans ((js1 at139_5 rfl rfl rfl).trans ((js1 at139_6 rfl rfl rfl).trans ((js1 at139_7 rfl rfl rfl).trans ((jsci at139_9 rfl rfl).trans (jscall (H := H) (as := [.ref (jm_R H r0 3), .int x1, .int x2, .int x3, .int x4, .int (3 : Int32)]) (q := []) at139_10 rfl rv139i_278 (jscutV rfl rfl rfl (Nat.le_of_ble_eq_true rfl) rfl h2) rfl (Nat.le_of_ble_eq_true rfl) rfl rfl)))))))
theorem at139_13 : jm_at 139 13 = some (.istore 5) := by decide +kernel
theorem at139_15 : jm_at 139 15 = some (.aload_n 0) := by decide +kernel
theorem at139_16 : jm_at 139 16 = some (.getfield 32) := by decide +kernel
theorem at139_19 : jm_at 139 19 = some (.iload_n 1) := by decide +kernel
theorem at139_20 : jm_at 139 20 = some (.iload_n 2) := by decide +kernel
theorem at139_21 : jm_at 139 21 = some (.aload_n 0) := by decide +kernel
theorem at139_22 : jm_at 139 22 = some (.getfield 32) := by decide +kernel
theorem at139_25 : jm_at 139 25 = some (.iload_n 1) := by decide +kernel
theorem at139_26 : jm_at 139 26 = some (.iload_n 2) := by decide +kernel
theorem at139_27 : jm_at 139 27 = some (.iload 4) := by decide +kernel
theorem at139_29 : jm_at 139 29 = some (.iload 5) := by decide +kernel
theorem at139_31 : jm_at 139 31 = some (.iconst 0) := by decide +kernel
theorem at139_32 : jm_at 139 32 = some (.invokevirtual 278) := by decide +kernel
theorem u139_13 {S : Option (Nat × (Nat → Int32))} {H : jm_H} {Q : Option Value → jm_H → Prop} {r0 : Nat} {x1 x2 x3 x4 p0 : Int32} (h0 : jm_tg H r0 = 12) (h1 : ¬ jm_R H r0 3 = 0) (h2 : jm_tg H (jm_R H r0 3) = 4) : jm_w S 7 139 13 [.ref r0, .int x1, .int x2, .int x3, .int x4, .null] [.int p0] H Q = jm_c S 87 [.ref (jm_R H r0 3), .int x1, .int x2, .int x4, .int p0, .int (0 : Int32)] H (fun v G => jm_w S 7 139 35 [.ref r0, .int x1, .int x2, .int x3, .int x4, .int p0] (v.toList ++ [.int x2, .int x1, .ref (jm_R H r0 3)]) G Q) := (js1 at139_13 rfl rfl rfl).trans ((js1 at139_15 rfl rfl rfl).trans ((jsgR (H := H) at139_16 rv139g_32 rfl h0 h1 rfl).trans ((js1 at139_19 rfl rfl rfl).trans ((js1 at139_20 rfl rfl rfl).trans ((js1 at139_21 rfl rfl rfl).trans ((jsgR (H := H) at139_22 rv139g_32 rfl h0 h1 rfl).trans ((js1 at139_25 rfl rfl rfl).trans ((js1 at139_26 rfl rfl rfl).trans ((js1 at139_27 rfl rfl rfl).trans ((js1 at139_29 rfl rfl rfl).trans ((jsci at139_31 rfl rfl).trans (jscall (H := H) (as := [.ref (jm_R H r0 3), .int x1, .int x2, .int x4, .int p0, .int (0 : Int32)]) (q := [.int x2, .int x1, .ref (jm_R H r0 3)]) at139_32 rfl rv139i_278 (jscutV rfl rfl rfl (Nat.le_of_ble_eq_true rfl) rfl h2) rfl (Nat.le_of_ble_eq_true rfl) rfl rfl))))))))))))
theorem at139_35 : jm_at 139 35 = some (.invokevirtual 310) := by decide +kernel
theorem rv139i_310 : jm_rv 139 (.invokevirtual 310) = (2, 140, 0, 0) := by decide +kernel
theorem u139_35 {S : Option (Nat × (Nat → Int32))} {H : jm_H} {Q : Option Value → jm_H → Prop} {r0 o0 : Nat} {x1 x2 x3 x4 x5 p1 p2 p3 : Int32} (h0 : jm_tg H o0 = 4) : jm_w S 7 139 35 [.ref r0, .int x1, .int x2, .int x3, .int x4, .int x5] [.int p3, .int p2, .int p1, .ref o0] H Q = jm_c S 140 [.ref o0, .int p1, .int p2, .int p3] H (fun v G => jm_w S 7 139 38 [.ref r0, .int x1, .int x2, .int x3, .int x4, .int x5] (v.toList ++ []) G Q) := jscall (H := H) (as := [.ref o0, .int p1, .int p2, .int p3]) (q := []) at139_35 rfl rv139i_310 (jscutV rfl rfl rfl (Nat.le_of_ble_eq_true rfl) rfl h0) rfl (Nat.le_of_ble_eq_true rfl) rfl rfl
theorem at139_38 : jm_at 139 38 = some (.ireturn) := by decide +kernel
theorem u139_38 {S : Option (Nat × (Nat → Int32))} {H : jm_H} {Q : Option Value → jm_H → Prop} {r0 : Nat} {x1 x2 x3 x4 x5 p0 : Int32} : jm_w S 7 139 38 [.ref r0, .int x1, .int x2, .int x3, .int x4, .int x5] [.int p0] H Q = Q (some (.int p0)) H := jsret_i at139_38 rfl
theorem en139 {S : Option (Nat × (Nat → Int32))} {H : jm_H} {Q : Option Value → jm_H → Prop} {r0 : Nat} {x1 x2 x3 x4 : Int32} : jm_c S 139 [.ref r0, .int x1, .int x2, .int x3, .int x4] H Q = jm_w S 7 139 0 [.ref r0, .int x1, .int x2, .int x3, .int x4, .null] [] H Q := rfl
theorem at141_0 : jm_at 141 0 = some (.iload_n 1) := by decide +kernel
theorem at141_1 : jm_at 141 1 = some (.iload_n 2) := by decide +kernel
theorem at141_2 : jm_at 141 2 = some (.iload_n 3) := by decide +kernel
theorem at141_3 : jm_at 141 3 = some (.invokestatic 152) := by decide +kernel
theorem rv141i_152 : jm_rv 141 (.invokestatic 152) = (1, 99, 0, 0) := by decide +kernel
theorem u141_0 {S : Option (Nat × (Nat → Int32))} {H : jm_H} {Q : Option Value → jm_H → Prop} {r0 : Nat} {x1 x2 x3 x4 : Int32} : jm_w S 7 141 0 [.ref r0, .int x1, .int x2, .int x3, .int x4, .null, .null] [] H Q = jm_c S 99 [.int x1, .int x2, .int x3] H (fun v G => jm_w S 7 141 6 [.ref r0, .int x1, .int x2, .int x3, .int x4, .null, .null] (v.toList ++ []) G Q) := (js1 at141_0 rfl rfl rfl).trans ((js1 at141_1 rfl rfl rfl).trans ((js1 at141_2 rfl rfl rfl).trans (jscall (H := H) (as := [.int x1, .int x2, .int x3]) (q := []) at141_3 rfl rv141i_152 (jscut rfl rfl rfl (Nat.le_of_ble_eq_true rfl)) rfl (Nat.le_of_ble_eq_true rfl) rfl rfl)))
theorem at141_6 : jm_at 141 6 = some (.ifCond .eq 15) := by decide +kernel
theorem u141_6 {S : Option (Nat × (Nat → Int32))} {H : jm_H} {Q : Option Value → jm_H → Prop} {r0 : Nat} {x1 x2 x3 x4 p0 : Int32} : jm_w S 7 141 6 [.ref r0, .int x1, .int x2, .int x3, .int x4, .null, .null] [.int p0] H Q = if p0 = 0 then jm_w S 7 141 21 [.ref r0, .int x1, .int x2, .int x3, .int x4, .null, .null] [] H Q else jm_w S 7 141 9 [.ref r0, .int x1, .int x2, .int x3, .int x4, .null, .null] [] H Q := jsif (P := p0 = 0) at141_6 rfl rfl
theorem at141_9 : jm_at 141 9 = some (.iload 4) := by decide +kernel
theorem at141_11 : jm_at 141 11 = some (.ifCond .lt 10) := by decide +kernel
theorem u141_9 {S : Option (Nat × (Nat → Int32))} {H : jm_H} {Q : Option Value → jm_H → Prop} {r0 : Nat} {x1 x2 x3 x4 : Int32} : jm_w S 7 141 9 [.ref r0, .int x1, .int x2, .int x3, .int x4, .null, .null] [] H Q = if x4 < 0 then jm_w S 7 141 21 [.ref r0, .int x1, .int x2, .int x3, .int x4, .null, .null] [] H Q else jm_w S 7 141 14 [.ref r0, .int x1, .int x2, .int x3, .int x4, .null, .null] [] H Q := (js1 at141_9 rfl rfl rfl).trans (jsif (P := x4 < 0) at141_11 rfl rfl)
theorem at141_14 : jm_at 141 14 = some (.iload 4) := by decide +kernel
theorem at141_16 : jm_at 141 16 = some (.bipush 50) := by decide +kernel
theorem at141_18 : jm_at 141 18 = some (.if_icmp .le 5) := by decide +kernel
theorem u141_14 {S : Option (Nat × (Nat → Int32))} {H : jm_H} {Q : Option Value → jm_H → Prop} {r0 : Nat} {x1 x2 x3 x4 : Int32} : jm_w S 7 141 14 [.ref r0, .int x1, .int x2, .int x3, .int x4, .null, .null] [] H Q = if x4 ≤ (50 : Int32) then jm_w S 7 141 23 [.ref r0, .int x1, .int x2, .int x3, .int x4, .null, .null] [] H Q else jm_w S 7 141 21 [.ref r0, .int x1, .int x2, .int x3, .int x4, .null, .null] [] H Q := (js1 at141_14 rfl rfl rfl).trans ((jscb at141_16 rfl rfl).trans (jsif (P := x4 ≤ (50 : Int32)) at141_18 rfl rfl))
theorem at141_21 : jm_at 141 21 = some (.iconst (-1)) := by decide +kernel
theorem at141_22 : jm_at 141 22 = some (.ireturn) := by decide +kernel
theorem u141_21 {S : Option (Nat × (Nat → Int32))} {H : jm_H} {Q : Option Value → jm_H → Prop} {r0 : Nat} {x1 x2 x3 x4 : Int32} : jm_w S 7 141 21 [.ref r0, .int x1, .int x2, .int x3, .int x4, .null, .null] [] H Q = Q (some (.int (-1 : Int32))) H := (jsci at141_21 rfl rfl).trans (jsret_i at141_22 rfl)
theorem at141_23 : jm_at 141 23 = some (.iload_n 1) := by decide +kernel
theorem at141_24 : jm_at 141 24 = some (.invokestatic 313) := by decide +kernel
theorem rv141i_313 : jm_rv 141 (.invokestatic 313) = (1, 142, 0, 0) := by decide +kernel
theorem u141_23 {S : Option (Nat × (Nat → Int32))} {H : jm_H} {Q : Option Value → jm_H → Prop} {r0 : Nat} {x1 x2 x3 x4 : Int32} : jm_w S 7 141 23 [.ref r0, .int x1, .int x2, .int x3, .int x4, .null, .null] [] H Q = jm_c S 142 [.int x1] H (fun v G => jm_w S 7 141 27 [.ref r0, .int x1, .int x2, .int x3, .int x4, .null, .null] (v.toList ++ []) G Q) := (js1 at141_23 rfl rfl rfl).trans (jscall (H := H) (as := [.int x1]) (q := []) at141_24 rfl rv141i_313 (jscut rfl rfl rfl (Nat.le_of_ble_eq_true rfl)) rfl (Nat.le_of_ble_eq_true rfl) rfl rfl)
theorem at141_27 : jm_at 141 27 = some (.istore 5) := by decide +kernel
theorem at141_29 : jm_at 141 29 = some (.iconst 0) := by decide +kernel
theorem at141_30 : jm_at 141 30 = some (.istore 6) := by decide +kernel
theorem u141_27 {S : Option (Nat × (Nat → Int32))} {H : jm_H} {Q : Option Value → jm_H → Prop} {r0 : Nat} {x1 x2 x3 x4 p0 : Int32} : jm_w S 7 141 27 [.ref r0, .int x1, .int x2, .int x3, .int x4, .null, .null] [.int p0] H Q = jm_w S 7 141 32 [.ref r0, .int x1, .int x2, .int x3, .int x4, .int p0, .int (0 : Int32)] [] H Q := (js1 at141_27 rfl rfl rfl).trans ((jsci at141_29 rfl rfl).trans (js1 at141_30 rfl rfl rfl))
theorem at141_32 : jm_at 141 32 = some (.iload 6) := by decide +kernel
theorem at141_34 : jm_at 141 34 = some (.iload 4) := by decide +kernel
theorem at141_36 : jm_at 141 36 = some (.if_icmp .ge 24) := by decide +kernel
theorem u141_32 {S : Option (Nat × (Nat → Int32))} {H : jm_H} {Q : Option Value → jm_H → Prop} {r0 : Nat} {x1 x2 x3 x4 x5 x6 : Int32} : jm_w S 7 141 32 [.ref r0, .int x1, .int x2, .int x3, .int x4, .int x5, .int x6] [] H Q = if x4 ≤ x6 then jm_w S 7 141 60 [.ref r0, .int x1, .int x2, .int x3, .int x4, .int x5, .int x6] [] H Q else jm_w S 7 141 39 [.ref r0, .int x1, .int x2, .int x3, .int x4, .int x5, .int x6] [] H Q := (js1 at141_32 rfl rfl rfl).trans ((js1 at141_34 rfl rfl rfl).trans (jsif (P := x4 ≤ x6) at141_36 rfl rfl))
theorem at141_39 : jm_at 141 39 = some (.aload_n 0) := by decide +kernel
theorem at141_40 : jm_at 141 40 = some (.getfield 32) := by decide +kernel
theorem rv141g_32 : jm_rv 141 (.getfield 32) = (0, 11, 3, 0) := by decide +kernel
theorem at141_43 : jm_at 141 43 = some (.iload_n 1) := by decide +kernel
theorem at141_44 : jm_at 141 44 = some (.iload_n 2) := by decide +kernel
theorem at141_45 : jm_at 141 45 = some (.iload 5) := by decide +kernel
theorem at141_47 : jm_at 141 47 = some (.iload_n 3) := by decide +kernel
theorem at141_48 : jm_at 141 48 = some (.iconst 2) := by decide +kernel
theorem at141_49 : jm_at 141 49 = some (.invokevirtual 278) := by decide +kernel
theorem rv141i_278 : jm_rv 141 (.invokevirtual 278) = (2, 87, 0, 0) := by decide +kernel
theorem u141_39 {S : Option (Nat × (Nat → Int32))} {H : jm_H} {Q : Option Value → jm_H → Prop} {r0 : Nat} {x1 x2 x3 x4 x5 x6 : Int32} (h0 : jm_tg H r0 = 12) (h1 : ¬ jm_R H r0 3 = 0) (h2 : jm_tg H (jm_R H r0 3) = 4) : jm_w S 7 141 39 [.ref r0, .int x1, .int x2, .int x3, .int x4, .int x5, .int x6] [] H Q = jm_c S 87 [.ref (jm_R H r0 3), .int x1, .int x2, .int x5, .int x3, .int (2 : Int32)] H (fun v G => jm_w S 7 141 52 [.ref r0, .int x1, .int x2, .int x3, .int x4, .int x5, .int x6] (v.toList ++ []) G Q) := (js1 at141_39 rfl rfl rfl).trans ((jsgR (H := H) at141_40 rv141g_32 rfl h0 h1 rfl).trans ((js1 at141_43 rfl rfl rfl).trans ((js1 at141_44 rfl rfl rfl).trans ((js1 at141_45 rfl rfl rfl).trans ((js1 at141_47 rfl rfl rfl).trans ((jsci at141_48 rfl rfl).trans (jscall (H := H) (as := [.ref (jm_R H r0 3), .int x1, .int x2, .int x5, .int x3, .int (2 : Int32)]) (q := []) at141_49 rfl rv141i_278 (jscutV rfl rfl rfl (Nat.le_of_ble_eq_true rfl) rfl h2) rfl (Nat.le_of_ble_eq_true rfl) rfl rfl)))))))
theorem at141_52 : jm_at 141 52 = some (.istore 5) := by decide +kernel
theorem at141_54 : jm_at 141 54 = some (.iinc 6 1) := by decide +kernel
theorem at141_57 : jm_at 141 57 = some (.goto (-25)) := by decide +kernel
theorem u141_52 {S : Option (Nat × (Nat → Int32))} {H : jm_H} {Q : Option Value → jm_H → Prop} {r0 : Nat} {x1 x2 x3 x4 x5 x6 p0 : Int32} : jm_w S 7 141 52 [.ref r0, .int x1, .int x2, .int x3, .int x4, .int x5, .int x6] [.int p0] H Q = jm_w S 7 141 32 [.ref r0, .int x1, .int x2, .int x3, .int x4, .int p0, .int (x6 + 1)] [] H Q := (js1 at141_52 rfl rfl rfl).trans ((jsinc at141_54 rfl rfl rfl).trans (js2 at141_57 rfl rfl))
theorem at141_60 : jm_at 141 60 = some (.iload 5) := by decide +kernel
theorem at141_62 : jm_at 141 62 = some (.ireturn) := by decide +kernel
theorem u141_60 {S : Option (Nat × (Nat → Int32))} {H : jm_H} {Q : Option Value → jm_H → Prop} {r0 : Nat} {x1 x2 x3 x4 x5 x6 : Int32} : jm_w S 7 141 60 [.ref r0, .int x1, .int x2, .int x3, .int x4, .int x5, .int x6] [] H Q = Q (some (.int x5)) H := (js1 at141_60 rfl rfl rfl).trans (jsret_i at141_62 rfl)
theorem en141 {S : Option (Nat × (Nat → Int32))} {H : jm_H} {Q : Option Value → jm_H → Prop} {r0 : Nat} {x1 x2 x3 x4 : Int32} : jm_c S 141 [.ref r0, .int x1, .int x2, .int x3, .int x4] H Q = jm_w S 7 141 0 [.ref r0, .int x1, .int x2, .int x3, .int x4, .null, .null] [] H Q := rfl
theorem at143_0 : jm_at 143 0 = some (.iload_n 1) := by decide +kernel
theorem at143_1 : jm_at 143 1 = some (.iload_n 2) := by decide +kernel
theorem at143_2 : jm_at 143 2 = some (.invokestatic 143) := by decide +kernel
theorem rv143i_143 : jm_rv 143 (.invokestatic 143) = (1, 93, 0, 0) := by decide +kernel
theorem u143_0 {S : Option (Nat × (Nat → Int32))} {H : jm_H} {Q : Option Value → jm_H → Prop} {r0 : Nat} {x1 x2 x3 : Int32} : jm_w S 8 143 0 [.ref r0, .int x1, .int x2, .int x3, .null] [] H Q = jm_c S 93 [.int x1, .int x2] H (fun v G => jm_w S 8 143 5 [.ref r0, .int x1, .int x2, .int x3, .null] (v.toList ++ []) G Q) := (js1 at143_0 rfl rfl rfl).trans ((js1 at143_1 rfl rfl rfl).trans (jscall (H := H) (as := [.int x1, .int x2]) (q := []) at143_2 rfl rv143i_143 (jscut rfl rfl rfl (Nat.le_of_ble_eq_true rfl)) rfl (Nat.le_of_ble_eq_true rfl) rfl rfl))
theorem at143_5 : jm_at 143 5 = some (.ifCond .eq 12) := by decide +kernel
theorem u143_5 {S : Option (Nat × (Nat → Int32))} {H : jm_H} {Q : Option Value → jm_H → Prop} {r0 : Nat} {x1 x2 x3 p0 : Int32} : jm_w S 8 143 5 [.ref r0, .int x1, .int x2, .int x3, .null] [.int p0] H Q = if p0 = 0 then jm_w S 8 143 17 [.ref r0, .int x1, .int x2, .int x3, .null] [] H Q else jm_w S 8 143 8 [.ref r0, .int x1, .int x2, .int x3, .null] [] H Q := jsif (P := p0 = 0) at143_5 rfl rfl
theorem at143_8 : jm_at 143 8 = some (.iload_n 3) := by decide +kernel
theorem at143_9 : jm_at 143 9 = some (.ifCond .lt 8) := by decide +kernel
theorem u143_8 {S : Option (Nat × (Nat → Int32))} {H : jm_H} {Q : Option Value → jm_H → Prop} {r0 : Nat} {x1 x2 x3 : Int32} : jm_w S 8 143 8 [.ref r0, .int x1, .int x2, .int x3, .null] [] H Q = if x3 < 0 then jm_w S 8 143 17 [.ref r0, .int x1, .int x2, .int x3, .null] [] H Q else jm_w S 8 143 12 [.ref r0, .int x1, .int x2, .int x3, .null] [] H Q := (js1 at143_8 rfl rfl rfl).trans (jsif (P := x3 < 0) at143_9 rfl rfl)
theorem at143_12 : jm_at 143 12 = some (.iload_n 3) := by decide +kernel
theorem at143_13 : jm_at 143 13 = some (.iconst 2) := by decide +kernel
theorem at143_14 : jm_at 143 14 = some (.if_icmp .le 5) := by decide +kernel
theorem u143_12 {S : Option (Nat × (Nat → Int32))} {H : jm_H} {Q : Option Value → jm_H → Prop} {r0 : Nat} {x1 x2 x3 : Int32} : jm_w S 8 143 12 [.ref r0, .int x1, .int x2, .int x3, .null] [] H Q = if x3 ≤ (2 : Int32) then jm_w S 8 143 19 [.ref r0, .int x1, .int x2, .int x3, .null] [] H Q else jm_w S 8 143 17 [.ref r0, .int x1, .int x2, .int x3, .null] [] H Q := (js1 at143_12 rfl rfl rfl).trans ((jsci at143_13 rfl rfl).trans (jsif (P := x3 ≤ (2 : Int32)) at143_14 rfl rfl))
theorem at143_17 : jm_at 143 17 = some (.iconst (-1)) := by decide +kernel
theorem at143_18 : jm_at 143 18 = some (.ireturn) := by decide +kernel
theorem u143_17 {S : Option (Nat × (Nat → Int32))} {H : jm_H} {Q : Option Value → jm_H → Prop} {r0 : Nat} {x1 x2 x3 : Int32} : jm_w S 8 143 17 [.ref r0, .int x1, .int x2, .int x3, .null] [] H Q = Q (some (.int (-1 : Int32))) H := (jsci at143_17 rfl rfl).trans (jsret_i at143_18 rfl)
theorem at143_19 : jm_at 143 19 = some (.iload_n 1) := by decide +kernel
theorem at143_20 : jm_at 143 20 = some (.bipush 6) := by decide +kernel
theorem at143_22 : jm_at 143 22 = some (.if_icmp .le 6) := by decide +kernel
theorem u143_19 {S : Option (Nat × (Nat → Int32))} {H : jm_H} {Q : Option Value → jm_H → Prop} {r0 : Nat} {x1 x2 x3 : Int32} : jm_w S 8 143 19 [.ref r0, .int x1, .int x2, .int x3, .null] [] H Q = if x1 ≤ (6 : Int32) then jm_w S 8 143 28 [.ref r0, .int x1, .int x2, .int x3, .null] [] H Q else jm_w S 8 143 25 [.ref r0, .int x1, .int x2, .int x3, .null] [] H Q := (js1 at143_19 rfl rfl rfl).trans ((jscb at143_20 rfl rfl).trans (jsif (P := x1 ≤ (6 : Int32)) at143_22 rfl rfl))
theorem at143_25 : jm_at 143 25 = some (.bipush (-2)) := by decide +kernel
theorem at143_27 : jm_at 143 27 = some (.ireturn) := by decide +kernel
theorem u143_25 {S : Option (Nat × (Nat → Int32))} {H : jm_H} {Q : Option Value → jm_H → Prop} {r0 : Nat} {x1 x2 x3 : Int32} : jm_w S 8 143 25 [.ref r0, .int x1, .int x2, .int x3, .null] [] H Q = Q (some (.int (-2 : Int32))) H := (jscb at143_25 rfl rfl).trans (jsret_i at143_27 rfl)
theorem at143_28 : jm_at 143 28 = some (.iload_n 1) := by decide +kernel
theorem at143_29 : jm_at 143 29 = some (.iconst 3) := by decide +kernel
theorem at143_30 : jm_at 143 30 = some (.isub) := by decide +kernel
theorem at143_31 : jm_at 143 31 = some (.iconst 3) := by decide +kernel
theorem at143_32 : jm_at 143 32 = some (.imul) := by decide +kernel
theorem at143_33 : jm_at 143 33 = some (.iload_n 2) := by decide +kernel
theorem at143_34 : jm_at 143 34 = some (.iadd) := by decide +kernel
theorem at143_35 : jm_at 143 35 = some (.iconst 3) := by decide +kernel
theorem at143_36 : jm_at 143 36 = some (.imul) := by decide +kernel
theorem at143_37 : jm_at 143 37 = some (.iload_n 3) := by decide +kernel
theorem at143_38 : jm_at 143 38 = some (.iadd) := by decide +kernel
theorem at143_39 : jm_at 143 39 = some (.istore 4) := by decide +kernel
theorem at143_41 : jm_at 143 41 = some (.iload 4) := by decide +kernel
theorem at143_43 : jm_at 143 43 = some (.aload_n 0) := by decide +kernel
theorem at143_44 : jm_at 143 44 = some (.getfield 75) := by decide +kernel
theorem rv143g_75 : jm_rv 143 (.getfield 75) = (0, 11, 12, 0) := by decide +kernel
theorem at143_47 : jm_at 143 47 = some (.arraylength) := by decide +kernel
theorem at143_48 : jm_at 143 48 = some (.if_icmp .lt 5) := by decide +kernel
theorem u143_28 {S : Option (Nat × (Nat → Int32))} {H : jm_H} {Q : Option Value → jm_H → Prop} {r0 : Nat} {x1 x2 x3 : Int32} (h0 : jm_tg H r0 = 12) (h1 : ¬ jm_R H r0 12 = 0) (h2 : ¬ (jm_R H r0 12) = 1) (h3 : 100 ≤ jm_tg H (jm_R H r0 12)) : jm_w S 8 143 28 [.ref r0, .int x1, .int x2, .int x3, .null] [] H Q = if (((((x1 - (3 : Int32)) * (3 : Int32)) + x2) * (3 : Int32)) + x3) < (Int32.ofNat (jm_ln H (jm_R H r0 12))) then jm_w S 8 143 53 [.ref r0, .int x1, .int x2, .int x3, .int (((((x1 - (3 : Int32)) * (3 : Int32)) + x2) * (3 : Int32)) + x3)] [] H Q else jm_w S 8 143 51 [.ref r0, .int x1, .int x2, .int x3, .int (((((x1 - (3 : Int32)) * (3 : Int32)) + x2) * (3 : Int32)) + x3)] [] H Q := (js1 at143_28 rfl rfl rfl).trans ((jsci at143_29 rfl rfl).trans ((js0 at143_30 rfl rfl rfl).trans ((jsci at143_31 rfl rfl).trans ((js0 at143_32 rfl rfl rfl).trans ((js1 at143_33 rfl rfl rfl).trans ((js0 at143_34 rfl rfl rfl).trans ((jsci at143_35 rfl rfl).trans ((js0 at143_36 rfl rfl rfl).trans ((js1 at143_37 rfl rfl rfl).trans ((js0 at143_38 rfl rfl rfl).trans ((js1 at143_39 rfl rfl rfl).trans ((js1 at143_41 rfl rfl rfl).trans ((js1 at143_43 rfl rfl rfl).trans ((jsgR (H := H) at143_44 rv143g_75 rfl h0 h1 rfl).trans ((jsaln (H := H) at143_47 h2 h3 rfl).trans (jsif (P := (((((x1 - (3 : Int32)) * (3 : Int32)) + x2) * (3 : Int32)) + x3) < (Int32.ofNat (jm_ln H (jm_R H r0 12)))) at143_48 rfl rfl))))))))))))))))
theorem at143_51 : jm_at 143 51 = some (.iconst (-1)) := by decide +kernel
theorem at143_52 : jm_at 143 52 = some (.ireturn) := by decide +kernel
theorem u143_51 {S : Option (Nat × (Nat → Int32))} {H : jm_H} {Q : Option Value → jm_H → Prop} {r0 : Nat} {x1 x2 x3 x4 : Int32} : jm_w S 8 143 51 [.ref r0, .int x1, .int x2, .int x3, .int x4] [] H Q = Q (some (.int (-1 : Int32))) H := (jsci at143_51 rfl rfl).trans (jsret_i at143_52 rfl)
theorem at143_53 : jm_at 143 53 = some (.aload_n 0) := by decide +kernel
theorem at143_54 : jm_at 143 54 = some (.getfield 75) := by decide +kernel
theorem at143_57 : jm_at 143 57 = some (.iload 4) := by decide +kernel
theorem at143_59 : jm_at 143 59 = some (.iaload) := by decide +kernel
theorem at143_60 : jm_at 143 60 = some (.iconst (-1)) := by decide +kernel
theorem at143_61 : jm_at 143 61 = some (.if_icmp .ne 34) := by decide +kernel
theorem u143_53 {S : Option (Nat × (Nat → Int32))} {H : jm_H} {Q : Option Value → jm_H → Prop} {r0 : Nat} {x1 x2 x3 x4 : Int32} (h0 : jm_tg H r0 = 12) (h1 : ¬ jm_R H r0 12 = 0) (h2 : ¬ (x4 < 0 ∨ jm_ln H (jm_R H r0 12) ≤ Int32.toNatClampNeg x4)) (h3 : ¬ (jm_R H r0 12) = 1) (h4 : jm_tg H (jm_R H r0 12) = 100) : jm_w S 8 143 53 [.ref r0, .int x1, .int x2, .int x3, .int x4] [] H Q = if ¬ (jm_I H (jm_R H r0 12) (Int32.toNatClampNeg x4)) = (-1 : Int32) then jm_w S 8 143 95 [.ref r0, .int x1, .int x2, .int x3, .int x4] [] H Q else jm_w S 8 143 64 [.ref r0, .int x1, .int x2, .int x3, .int x4] [] H Q := (js1 at143_53 rfl rfl rfl).trans ((jsgR (H := H) at143_54 rv143g_75 rfl h0 h1 rfl).trans ((js1 at143_57 rfl rfl rfl).trans ((jsial (H := H) at143_59 h3 h4 h2 rfl).trans ((jsci at143_60 rfl rfl).trans (jsif (P := ¬ (jm_I H (jm_R H r0 12) (Int32.toNatClampNeg x4)) = (-1 : Int32)) at143_61 rfl rfl)))))
theorem at143_64 : jm_at 143 64 = some (.aload_n 0) := by decide +kernel
theorem at143_65 : jm_at 143 65 = some (.getfield 75) := by decide +kernel
theorem at143_68 : jm_at 143 68 = some (.iload 4) := by decide +kernel
theorem at143_70 : jm_at 143 70 = some (.aload_n 0) := by decide +kernel
theorem at143_71 : jm_at 143 71 = some (.iload_n 1) := by decide +kernel
theorem at143_72 : jm_at 143 72 = some (.iload_n 2) := by decide +kernel
theorem at143_73 : jm_at 143 73 = some (.iload_n 3) := by decide +kernel
theorem at143_74 : jm_at 143 74 = some (.ifCond .ne 7) := by decide +kernel
theorem u143_64 {S : Option (Nat × (Nat → Int32))} {H : jm_H} {Q : Option Value → jm_H → Prop} {r0 : Nat} {x1 x2 x3 x4 : Int32} (h0 : jm_tg H r0 = 12) (h1 : ¬ jm_R H r0 12 = 0) : jm_w S 8 143 64 [.ref r0, .int x1, .int x2, .int x3, .int x4] [] H Q = if ¬ x3 = 0 then jm_w S 8 143 81 [.ref r0, .int x1, .int x2, .int x3, .int x4] [.int x2, .int x1, .ref r0, .int x4, .ref (jm_R H r0 12)] H Q else jm_w S 8 143 77 [.ref r0, .int x1, .int x2, .int x3, .int x4] [.int x2, .int x1, .ref r0, .int x4, .ref (jm_R H r0 12)] H Q := (js1 at143_64 rfl rfl rfl).trans ((jsgR (H := H) at143_65 rv143g_75 rfl h0 h1 rfl).trans ((js1 at143_68 rfl rfl rfl).trans ((js1 at143_70 rfl rfl rfl).trans ((js1 at143_71 rfl rfl rfl).trans ((js1 at143_72 rfl rfl rfl).trans ((js1 at143_73 rfl rfl rfl).trans (jsif (P := ¬ x3 = 0) at143_74 rfl rfl)))))))
theorem at143_77 : jm_at 143 77 = some (.iconst 0) := by decide +kernel
theorem at143_78 : jm_at 143 78 = some (.goto 13) := by decide +kernel
theorem u143_77 {S : Option (Nat × (Nat → Int32))} {H : jm_H} {Q : Option Value → jm_H → Prop} {r0 o0 o2 : Nat} {x1 x2 x3 x4 p1 p3 p4 : Int32} : jm_w S 8 143 77 [.ref r0, .int x1, .int x2, .int x3, .int x4] [.int p4, .int p3, .ref o2, .int p1, .ref o0] H Q = jm_w S 8 143 91 [.ref r0, .int x1, .int x2, .int x3, .int x4] [.int (0 : Int32), .int p4, .int p3, .ref o2, .int p1, .ref o0] H Q := (jsci at143_77 rfl rfl).trans (js2 at143_78 rfl rfl)
theorem at143_81 : jm_at 143 81 = some (.iload_n 3) := by decide +kernel
theorem at143_82 : jm_at 143 82 = some (.iconst 1) := by decide +kernel
theorem at143_83 : jm_at 143 83 = some (.if_icmp .ne 7) := by decide +kernel
theorem u143_81 {S : Option (Nat × (Nat → Int32))} {H : jm_H} {Q : Option Value → jm_H → Prop} {r0 o0 o2 : Nat} {x1 x2 x3 x4 p1 p3 p4 : Int32} : jm_w S 8 143 81 [.ref r0, .int x1, .int x2, .int x3, .int x4] [.int p4, .int p3, .ref o2, .int p1, .ref o0] H Q = if ¬ x3 = (1 : Int32) then jm_w S 8 143 90 [.ref r0, .int x1, .int x2, .int x3, .int x4] [.int p4, .int p3, .ref o2, .int p1, .ref o0] H Q else jm_w S 8 143 86 [.ref r0, .int x1, .int x2, .int x3, .int x4] [.int p4, .int p3, .ref o2, .int p1, .ref o0] H Q := (js1 at143_81 rfl rfl rfl).trans ((jsci at143_82 rfl rfl).trans (jsif (P := ¬ x3 = (1 : Int32)) at143_83 rfl rfl))
theorem at143_86 : jm_at 143 86 = some (.iconst 2) := by decide +kernel
theorem at143_87 : jm_at 143 87 = some (.goto 4) := by decide +kernel
theorem u143_86 {S : Option (Nat × (Nat → Int32))} {H : jm_H} {Q : Option Value → jm_H → Prop} {r0 o0 o2 : Nat} {x1 x2 x3 x4 p1 p3 p4 : Int32} : jm_w S 8 143 86 [.ref r0, .int x1, .int x2, .int x3, .int x4] [.int p4, .int p3, .ref o2, .int p1, .ref o0] H Q = jm_w S 8 143 91 [.ref r0, .int x1, .int x2, .int x3, .int x4] [.int (2 : Int32), .int p4, .int p3, .ref o2, .int p1, .ref o0] H Q := (jsci at143_86 rfl rfl).trans (js2 at143_87 rfl rfl)
theorem at143_90 : jm_at 143 90 = some (.iconst 3) := by decide +kernel
theorem u143_90 {S : Option (Nat × (Nat → Int32))} {H : jm_H} {Q : Option Value → jm_H → Prop} {r0 o0 o2 : Nat} {x1 x2 x3 x4 p1 p3 p4 : Int32} : jm_w S 8 143 90 [.ref r0, .int x1, .int x2, .int x3, .int x4] [.int p4, .int p3, .ref o2, .int p1, .ref o0] H Q = jm_w S 8 143 91 [.ref r0, .int x1, .int x2, .int x3, .int x4] [.int (3 : Int32), .int p4, .int p3, .ref o2, .int p1, .ref o0] H Q := jsci at143_90 rfl rfl
theorem at143_91 : jm_at 143 91 = some (.invokevirtual 316) := by decide +kernel
theorem rv143i_316 : jm_rv 143 (.invokevirtual 316) = (2, 144, 0, 0) := by decide +kernel
theorem u143_91 {S : Option (Nat × (Nat → Int32))} {H : jm_H} {Q : Option Value → jm_H → Prop} {r0 o0 o2 : Nat} {x1 x2 x3 x4 p1 p3 p4 p5 : Int32} (h0 : jm_tg H o2 = 12) : jm_w S 8 143 91 [.ref r0, .int x1, .int x2, .int x3, .int x4] [.int p5, .int p4, .int p3, .ref o2, .int p1, .ref o0] H Q = jm_c S 144 [.ref o2, .int p3, .int p4, .int p5] H (fun v G => jm_w S 8 143 94 [.ref r0, .int x1, .int x2, .int x3, .int x4] (v.toList ++ [.int p1, .ref o0]) G Q) := jscall (H := H) (as := [.ref o2, .int p3, .int p4, .int p5]) (q := [.int p1, .ref o0]) at143_91 rfl rv143i_316 (jscutV rfl rfl rfl (Nat.le_of_ble_eq_true rfl) rfl h0) rfl (Nat.le_of_ble_eq_true rfl) rfl rfl
theorem at143_94 : jm_at 143 94 = some (.iastore) := by decide +kernel
theorem u143_94 {S : Option (Nat × (Nat → Int32))} {H : jm_H} {Q : Option Value → jm_H → Prop} {r0 o0 : Nat} {x1 x2 x3 x4 p1 p2 : Int32} (h0 : ¬ (p1 < 0 ∨ jm_ln H o0 ≤ Int32.toNatClampNeg p1)) (h1 : jm_tg H o0 = 100) : jm_w S 8 143 94 [.ref r0, .int x1, .int x2, .int x3, .int x4] [.int p2, .int p1, .ref o0] H Q = jm_w S 8 143 95 [.ref r0, .int x1, .int x2, .int x3, .int x4] [] (jm_pI H o0 (Int32.toNatClampNeg p1) p2) Q := jsias (H := H) at143_94 h1 h0 rfl
theorem at143_95 : jm_at 143 95 = some (.aload_n 0) := by decide +kernel
theorem at143_96 : jm_at 143 96 = some (.getfield 75) := by decide +kernel
theorem at143_99 : jm_at 143 99 = some (.iload 4) := by decide +kernel
theorem at143_101 : jm_at 143 101 = some (.iaload) := by decide +kernel
theorem at143_102 : jm_at 143 102 = some (.ireturn) := by decide +kernel
theorem u143_95 {S : Option (Nat × (Nat → Int32))} {H : jm_H} {Q : Option Value → jm_H → Prop} {r0 : Nat} {x1 x2 x3 x4 : Int32} (h0 : jm_tg H r0 = 12) (h1 : ¬ jm_R H r0 12 = 0) (h2 : ¬ (x4 < 0 ∨ jm_ln H (jm_R H r0 12) ≤ Int32.toNatClampNeg x4)) (h3 : ¬ (jm_R H r0 12) = 1) (h4 : jm_tg H (jm_R H r0 12) = 100) : jm_w S 8 143 95 [.ref r0, .int x1, .int x2, .int x3, .int x4] [] H Q = Q (some (.int (jm_I H (jm_R H r0 12) (Int32.toNatClampNeg x4)))) H := (js1 at143_95 rfl rfl rfl).trans ((jsgR (H := H) at143_96 rv143g_75 rfl h0 h1 rfl).trans ((js1 at143_99 rfl rfl rfl).trans ((jsial (H := H) at143_101 h3 h4 h2 rfl).trans (jsret_i at143_102 rfl))))
theorem en143 {S : Option (Nat × (Nat → Int32))} {H : jm_H} {Q : Option Value → jm_H → Prop} {r0 : Nat} {x1 x2 x3 : Int32} : jm_c S 143 [.ref r0, .int x1, .int x2, .int x3] H Q = jm_w S 8 143 0 [.ref r0, .int x1, .int x2, .int x3, .null] [] H Q := rfl
theorem at144_0 : jm_at 144 0 = some (.iconst 0) := by decide +kernel
theorem at144_1 : jm_at 144 1 = some (.istore 4) := by decide +kernel
theorem at144_3 : jm_at 144 3 = some (.iconst 0) := by decide +kernel
theorem at144_4 : jm_at 144 4 = some (.istore 5) := by decide +kernel
theorem u144_0 {S : Option (Nat × (Nat → Int32))} {H : jm_H} {Q : Option Value → jm_H → Prop} {r0 : Nat} {x1 x2 x3 : Int32} : jm_w S 7 144 0 [.ref r0, .int x1, .int x2, .int x3, .null, .null, .null] [] H Q = jm_w S 7 144 6 [.ref r0, .int x1, .int x2, .int x3, .int (0 : Int32), .int (0 : Int32), .null] [] H Q := (jsci at144_0 rfl rfl).trans ((js1 at144_1 rfl rfl rfl).trans ((jsci at144_3 rfl rfl).trans (js1 at144_4 rfl rfl rfl)))
theorem at144_6 : jm_at 144 6 = some (.iload 5) := by decide +kernel
theorem at144_8 : jm_at 144 8 = some (.iconst 1) := by decide +kernel
theorem at144_9 : jm_at 144 9 = some (.iload_n 1) := by decide +kernel
theorem at144_10 : jm_at 144 10 = some (.ishl) := by decide +kernel
theorem at144_11 : jm_at 144 11 = some (.if_icmp .ge 61) := by decide +kernel
theorem u144_6 {S : Option (Nat × (Nat → Int32))} {H : jm_H} {Q : Option Value → jm_H → Prop} {r0 : Nat} {x1 x2 x3 x4 x5 : Int32} {w6 : Value} : jm_w S 7 144 6 [.ref r0, .int x1, .int x2, .int x3, .int x4, .int x5, w6] [] H Q = if ((1 : Int32) <<< (x1 &&& 31)) ≤ x5 then jm_w S 7 144 72 [.ref r0, .int x1, .int x2, .int x3, .int x4, .int x5, w6] [] H Q else jm_w S 7 144 14 [.ref r0, .int x1, .int x2, .int x3, .int x4, .int x5, w6] [] H Q := (js1 at144_6 rfl rfl rfl).trans ((jsci at144_8 rfl rfl).trans ((js1 at144_9 rfl rfl rfl).trans ((js0 at144_10 rfl rfl rfl).trans (jsif (P := ((1 : Int32) <<< (x1 &&& 31)) ≤ x5) at144_11 rfl rfl))))
theorem at144_14 : jm_at 144 14 = some (.iconst 0) := by decide +kernel
theorem at144_15 : jm_at 144 15 = some (.istore 6) := by decide +kernel
theorem u144_14 {S : Option (Nat × (Nat → Int32))} {H : jm_H} {Q : Option Value → jm_H → Prop} {r0 : Nat} {x1 x2 x3 x4 x5 : Int32} {w6 : Value} : jm_w S 7 144 14 [.ref r0, .int x1, .int x2, .int x3, .int x4, .int x5, w6] [] H Q = jm_w S 7 144 17 [.ref r0, .int x1, .int x2, .int x3, .int x4, .int x5, .int (0 : Int32)] [] H Q := (jsci at144_14 rfl rfl).trans (js1 at144_15 rfl rfl rfl)
theorem at144_17 : jm_at 144 17 = some (.iload 6) := by decide +kernel
theorem at144_19 : jm_at 144 19 = some (.iconst 1) := by decide +kernel
theorem at144_20 : jm_at 144 20 = some (.iload_n 1) := by decide +kernel
theorem at144_21 : jm_at 144 21 = some (.ishl) := by decide +kernel
theorem at144_22 : jm_at 144 22 = some (.if_icmp .ge 44) := by decide +kernel
theorem u144_17 {S : Option (Nat × (Nat → Int32))} {H : jm_H} {Q : Option Value → jm_H → Prop} {r0 : Nat} {x1 x2 x3 x4 x5 x6 : Int32} : jm_w S 7 144 17 [.ref r0, .int x1, .int x2, .int x3, .int x4, .int x5, .int x6] [] H Q = if ((1 : Int32) <<< (x1 &&& 31)) ≤ x6 then jm_w S 7 144 66 [.ref r0, .int x1, .int x2, .int x3, .int x4, .int x5, .int x6] [] H Q else jm_w S 7 144 25 [.ref r0, .int x1, .int x2, .int x3, .int x4, .int x5, .int x6] [] H Q := (js1 at144_17 rfl rfl rfl).trans ((jsci at144_19 rfl rfl).trans ((js1 at144_20 rfl rfl rfl).trans ((js0 at144_21 rfl rfl rfl).trans (jsif (P := ((1 : Int32) <<< (x1 &&& 31)) ≤ x6) at144_22 rfl rfl))))
theorem at144_25 : jm_at 144 25 = some (.aload_n 0) := by decide +kernel
theorem at144_26 : jm_at 144 26 = some (.getfield 32) := by decide +kernel
theorem rv144g_32 : jm_rv 144 (.getfield 32) = (0, 11, 3, 0) := by decide +kernel
theorem at144_29 : jm_at 144 29 = some (.iload_n 1) := by decide +kernel
theorem at144_30 : jm_at 144 30 = some (.iload_n 2) := by decide +kernel
theorem at144_31 : jm_at 144 31 = some (.iload 5) := by decide +kernel
theorem at144_33 : jm_at 144 33 = some (.iload 6) := by decide +kernel
theorem at144_35 : jm_at 144 35 = some (.iload_n 3) := by decide +kernel
theorem at144_36 : jm_at 144 36 = some (.invokevirtual 278) := by decide +kernel
theorem rv144i_278 : jm_rv 144 (.invokevirtual 278) = (2, 87, 0, 0) := by decide +kernel
theorem u144_25 {S : Option (Nat × (Nat → Int32))} {H : jm_H} {Q : Option Value → jm_H → Prop} {r0 : Nat} {x1 x2 x3 x4 x5 x6 : Int32} (h0 : jm_tg H r0 = 12) (h1 : ¬ jm_R H r0 3 = 0) (h2 : jm_tg H (jm_R H r0 3) = 4) : jm_w S 7 144 25 [.ref r0, .int x1, .int x2, .int x3, .int x4, .int x5, .int x6] [] H Q = jm_c S 87 [.ref (jm_R H r0 3), .int x1, .int x2, .int x5, .int x6, .int x3] H (fun v G => jm_w S 7 144 39 [.ref r0, .int x1, .int x2, .int x3, .int x4, .int x5, .int x6] (v.toList ++ []) G Q) := (js1 at144_25 rfl rfl rfl).trans ((jsgR (H := H) at144_26 rv144g_32 rfl h0 h1 rfl).trans ((js1 at144_29 rfl rfl rfl).trans ((js1 at144_30 rfl rfl rfl).trans ((js1 at144_31 rfl rfl rfl).trans ((js1 at144_33 rfl rfl rfl).trans ((js1 at144_35 rfl rfl rfl).trans (jscall (H := H) (as := [.ref (jm_R H r0 3), .int x1, .int x2, .int x5, .int x6, .int x3]) (q := []) at144_36 rfl rv144i_278 (jscutV rfl rfl rfl (Nat.le_of_ble_eq_true rfl) rfl h2) rfl (Nat.le_of_ble_eq_true rfl) rfl rfl)))))))
theorem at144_39 : jm_at 144 39 = some (.pop) := by decide +kernel
theorem at144_40 : jm_at 144 40 = some (.iload 4) := by decide +kernel
theorem at144_42 : jm_at 144 42 = some (.aload_n 0) := by decide +kernel
theorem at144_43 : jm_at 144 43 = some (.getfield 32) := by decide +kernel
theorem at144_46 : jm_at 144 46 = some (.getfield 284) := by decide +kernel
theorem rv144g_284 : jm_rv 144 (.getfield 284) = (0, 3, 3, 0) := by decide +kernel
theorem at144_49 : jm_at 144 49 = some (.ifCond .ne 7) := by decide +kernel
theorem u144_39 {S : Option (Nat × (Nat → Int32))} {H : jm_H} {Q : Option Value → jm_H → Prop} {r0 : Nat} {x1 x2 x3 x4 x5 x6 p0 : Int32} (h0 : jm_tg H r0 = 12) (h1 : ¬ jm_R H r0 3 = 0) (h2 : jm_tg H (jm_R H r0 3) = 4) : jm_w S 7 144 39 [.ref r0, .int x1, .int x2, .int x3, .int x4, .int x5, .int x6] [.int p0] H Q = if ¬ (jm_I H (jm_R H r0 3) 3) = 0 then jm_w S 7 144 56 [.ref r0, .int x1, .int x2, .int x3, .int x4, .int x5, .int x6] [.int x4] H Q else jm_w S 7 144 52 [.ref r0, .int x1, .int x2, .int x3, .int x4, .int x5, .int x6] [.int x4] H Q := (js0 at144_39 rfl rfl rfl).trans ((js1 at144_40 rfl rfl rfl).trans ((js1 at144_42 rfl rfl rfl).trans ((jsgR (H := H) at144_43 rv144g_32 rfl h0 h1 rfl).trans ((jsgI (H := H) at144_46 rv144g_284 (Or.inl rfl) h2 rfl).trans (jsif (P := ¬ (jm_I H (jm_R H r0 3) 3) = 0) at144_49 rfl rfl)))))
theorem at144_52 : jm_at 144 52 = some (.iconst 1) := by decide +kernel
theorem at144_53 : jm_at 144 53 = some (.goto 4) := by decide +kernel
theorem u144_52 {S : Option (Nat × (Nat → Int32))} {H : jm_H} {Q : Option Value → jm_H → Prop} {r0 : Nat} {x1 x2 x3 x4 x5 x6 p0 : Int32} : jm_w S 7 144 52 [.ref r0, .int x1, .int x2, .int x3, .int x4, .int x5, .int x6] [.int p0] H Q = jm_w S 7 144 57 [.ref r0, .int x1, .int x2, .int x3, .int x4, .int x5, .int x6] [.int (1 : Int32), .int p0] H Q := (jsci at144_52 rfl rfl).trans (js2 at144_53 rfl rfl)
theorem at144_56 : jm_at 144 56 = some (.iconst 0) := by decide +kernel
theorem u144_56 {S : Option (Nat × (Nat → Int32))} {H : jm_H} {Q : Option Value → jm_H → Prop} {r0 : Nat} {x1 x2 x3 x4 x5 x6 p0 : Int32} : jm_w S 7 144 56 [.ref r0, .int x1, .int x2, .int x3, .int x4, .int x5, .int x6] [.int p0] H Q = jm_w S 7 144 57 [.ref r0, .int x1, .int x2, .int x3, .int x4, .int x5, .int x6] [.int (0 : Int32), .int p0] H Q := jsci at144_56 rfl rfl
theorem at144_57 : jm_at 144 57 = some (.iadd) := by decide +kernel
theorem at144_58 : jm_at 144 58 = some (.istore 4) := by decide +kernel
theorem at144_60 : jm_at 144 60 = some (.iinc 6 1) := by decide +kernel
theorem at144_63 : jm_at 144 63 = some (.goto (-46)) := by decide +kernel
theorem u144_57 {S : Option (Nat × (Nat → Int32))} {H : jm_H} {Q : Option Value → jm_H → Prop} {r0 : Nat} {x1 x2 x3 x4 x5 x6 p0 p1 : Int32} : jm_w S 7 144 57 [.ref r0, .int x1, .int x2, .int x3, .int x4, .int x5, .int x6] [.int p1, .int p0] H Q = jm_w S 7 144 17 [.ref r0, .int x1, .int x2, .int x3, .int (p0 + p1), .int x5, .int (x6 + 1)] [] H Q := (js0 at144_57 rfl rfl rfl).trans ((js1 at144_58 rfl rfl rfl).trans ((jsinc at144_60 rfl rfl rfl).trans (js2 at144_63 rfl rfl)))
theorem at144_66 : jm_at 144 66 = some (.iinc 5 1) := by decide +kernel
theorem at144_69 : jm_at 144 69 = some (.goto (-63)) := by decide +kernel
theorem u144_66 {S : Option (Nat × (Nat → Int32))} {H : jm_H} {Q : Option Value → jm_H → Prop} {r0 : Nat} {x1 x2 x3 x4 x5 x6 : Int32} : jm_w S 7 144 66 [.ref r0, .int x1, .int x2, .int x3, .int x4, .int x5, .int x6] [] H Q = jm_w S 7 144 6 [.ref r0, .int x1, .int x2, .int x3, .int x4, .int (x5 + 1), .int x6] [] H Q := (jsinc at144_66 rfl rfl rfl).trans (js2 at144_69 rfl rfl)
theorem at144_72 : jm_at 144 72 = some (.iload 4) := by decide +kernel
theorem at144_74 : jm_at 144 74 = some (.ireturn) := by decide +kernel
theorem u144_72 {S : Option (Nat × (Nat → Int32))} {H : jm_H} {Q : Option Value → jm_H → Prop} {r0 : Nat} {x1 x2 x3 x4 x5 : Int32} {w6 : Value} : jm_w S 7 144 72 [.ref r0, .int x1, .int x2, .int x3, .int x4, .int x5, w6] [] H Q = Q (some (.int x4)) H := (js1 at144_72 rfl rfl rfl).trans (jsret_i at144_74 rfl)
theorem en144 {S : Option (Nat × (Nat → Int32))} {H : jm_H} {Q : Option Value → jm_H → Prop} {r0 : Nat} {x1 x2 x3 : Int32} : jm_c S 144 [.ref r0, .int x1, .int x2, .int x3] H Q = jm_w S 7 144 0 [.ref r0, .int x1, .int x2, .int x3, .null, .null, .null] [] H Q := rfl
theorem at145_0 : jm_at 145 0 = some (.iload_n 1) := by decide +kernel
theorem at145_1 : jm_at 145 1 = some (.bipush (-100)) := by decide +kernel
theorem at145_3 : jm_at 145 3 = some (.if_icmp .lt 9) := by decide +kernel
theorem u145_0 {S : Option (Nat × (Nat → Int32))} {H : jm_H} {Q : Option Value → jm_H → Prop} {r0 : Nat} {x1 : Int32} : jm_w S 3 145 0 [.ref r0, .int x1] [] H Q = if x1 < (-100 : Int32) then jm_w S 3 145 12 [.ref r0, .int x1] [] H Q else jm_w S 3 145 6 [.ref r0, .int x1] [] H Q := (js1 at145_0 rfl rfl rfl).trans ((jscb at145_1 rfl rfl).trans (jsif (P := x1 < (-100 : Int32)) at145_3 rfl rfl))
theorem at145_6 : jm_at 145 6 = some (.iload_n 1) := by decide +kernel
theorem at145_7 : jm_at 145 7 = some (.bipush 100) := by decide +kernel
theorem at145_9 : jm_at 145 9 = some (.if_icmp .le 5) := by decide +kernel
theorem u145_6 {S : Option (Nat × (Nat → Int32))} {H : jm_H} {Q : Option Value → jm_H → Prop} {r0 : Nat} {x1 : Int32} : jm_w S 3 145 6 [.ref r0, .int x1] [] H Q = if x1 ≤ (100 : Int32) then jm_w S 3 145 14 [.ref r0, .int x1] [] H Q else jm_w S 3 145 12 [.ref r0, .int x1] [] H Q := (js1 at145_6 rfl rfl rfl).trans ((jscb at145_7 rfl rfl).trans (jsif (P := x1 ≤ (100 : Int32)) at145_9 rfl rfl))
theorem at145_12 : jm_at 145 12 = some (.iconst (-1)) := by decide +kernel
theorem at145_13 : jm_at 145 13 = some (.ireturn) := by decide +kernel
theorem u145_12 {S : Option (Nat × (Nat → Int32))} {H : jm_H} {Q : Option Value → jm_H → Prop} {r0 : Nat} {x1 : Int32} : jm_w S 3 145 12 [.ref r0, .int x1] [] H Q = Q (some (.int (-1 : Int32))) H := (jsci at145_12 rfl rfl).trans (jsret_i at145_13 rfl)
theorem at145_14 : jm_at 145 14 = some (.aload_n 0) := by decide +kernel
theorem at145_15 : jm_at 145 15 = some (.getfield 53) := by decide +kernel
theorem rv145g_53 : jm_rv 145 (.getfield 53) = (0, 11, 7, 0) := by decide +kernel
theorem at145_18 : jm_at 145 18 = some (.getfield 127) := by decide +kernel
theorem rv145g_127 : jm_rv 145 (.getfield 127) = (0, 6, 0, 0) := by decide +kernel
theorem at145_21 : jm_at 145 21 = some (.getfield 164) := by decide +kernel
theorem rv145g_164 : jm_rv 145 (.getfield 164) = (0, 7, 2, 0) := by decide +kernel
theorem at145_24 : jm_at 145 24 = some (.ifCond .eq 8) := by decide +kernel
theorem u145_14 {S : Option (Nat × (Nat → Int32))} {H : jm_H} {Q : Option Value → jm_H → Prop} {r0 : Nat} {x1 : Int32} (h0 : jm_tg H r0 = 12) (h1 : ¬ jm_R H r0 7 = 0) (h2 : jm_tg H (jm_R H r0 7) = 7) (h3 : ¬ jm_R H (jm_R H r0 7) 0 = 0) (h4 : jm_tg H (jm_R H (jm_R H r0 7) 0) = 8) : jm_w S 3 145 14 [.ref r0, .int x1] [] H Q = if (jm_I H (jm_R H (jm_R H r0 7) 0) 2) = 0 then jm_w S 3 145 32 [.ref r0, .int x1] [] H Q else jm_w S 3 145 27 [.ref r0, .int x1] [] H Q := (js1 at145_14 rfl rfl rfl).trans ((jsgR (H := H) at145_15 rv145g_53 rfl h0 h1 rfl).trans ((jsgR (H := H) at145_18 rv145g_127 rfl h2 h3 rfl).trans ((jsgI (H := H) at145_21 rv145g_164 (Or.inr rfl) h4 rfl).trans (jsif (P := (jm_I H (jm_R H (jm_R H r0 7) 0) 2) = 0) at145_24 rfl rfl))))
theorem at145_27 : jm_at 145 27 = some (.bipush (-2)) := by decide +kernel
theorem at145_29 : jm_at 145 29 = some (.goto 14) := by decide +kernel
theorem u145_27 {S : Option (Nat × (Nat → Int32))} {H : jm_H} {Q : Option Value → jm_H → Prop} {r0 : Nat} {x1 : Int32} : jm_w S 3 145 27 [.ref r0, .int x1] [] H Q = jm_w S 3 145 43 [.ref r0, .int x1] [.int (-2 : Int32)] H Q := (jscb at145_27 rfl rfl).trans (js2 at145_29 rfl rfl)
theorem at145_32 : jm_at 145 32 = some (.aload_n 0) := by decide +kernel
theorem at145_33 : jm_at 145 33 = some (.getfield 53) := by decide +kernel
theorem at145_36 : jm_at 145 36 = some (.getfield 127) := by decide +kernel
theorem at145_39 : jm_at 145 39 = some (.iload_n 1) := by decide +kernel
theorem at145_40 : jm_at 145 40 = some (.invokevirtual 319) := by decide +kernel
theorem rv145i_319 : jm_rv 145 (.invokevirtual 319) = (2, 146, 0, 0) := by decide +kernel
theorem u145_32 {S : Option (Nat × (Nat → Int32))} {H : jm_H} {Q : Option Value → jm_H → Prop} {r0 : Nat} {x1 : Int32} (h0 : jm_tg H r0 = 12) (h1 : ¬ jm_R H r0 7 = 0) (h2 : jm_tg H (jm_R H r0 7) = 7) (h3 : ¬ jm_R H (jm_R H r0 7) 0 = 0) (h4 : jm_tg H (jm_R H (jm_R H r0 7) 0) = 8) : jm_w S 3 145 32 [.ref r0, .int x1] [] H Q = jm_c S 146 [.ref (jm_R H (jm_R H r0 7) 0), .int x1] H (fun v G => jm_w S 3 145 43 [.ref r0, .int x1] (v.toList ++ []) G Q) := (js1 at145_32 rfl rfl rfl).trans ((jsgR (H := H) at145_33 rv145g_53 rfl h0 h1 rfl).trans ((jsgR (H := H) at145_36 rv145g_127 rfl h2 h3 rfl).trans ((js1 at145_39 rfl rfl rfl).trans (jscall (H := H) (as := [.ref (jm_R H (jm_R H r0 7) 0), .int x1]) (q := []) at145_40 rfl rv145i_319 (jscutV rfl rfl rfl (Nat.le_of_ble_eq_true rfl) rfl h4) rfl (Nat.le_of_ble_eq_true rfl) rfl rfl))))
theorem at145_43 : jm_at 145 43 = some (.ireturn) := by decide +kernel
theorem u145_43 {S : Option (Nat × (Nat → Int32))} {H : jm_H} {Q : Option Value → jm_H → Prop} {r0 : Nat} {x1 p0 : Int32} : jm_w S 3 145 43 [.ref r0, .int x1] [.int p0] H Q = Q (some (.int p0)) H := jsret_i at145_43 rfl
theorem en145 {S : Option (Nat × (Nat → Int32))} {H : jm_H} {Q : Option Value → jm_H → Prop} {r0 : Nat} {x1 : Int32} : jm_c S 145 [.ref r0, .int x1] H Q = jm_w S 3 145 0 [.ref r0, .int x1] [] H Q := rfl
theorem at147_0 : jm_at 147 0 = some (.iload_n 1) := by decide +kernel
theorem at147_1 : jm_at 147 1 = some (.iload_n 2) := by decide +kernel
theorem at147_2 : jm_at 147 2 = some (.invokestatic 143) := by decide +kernel
theorem rv147i_143 : jm_rv 147 (.invokestatic 143) = (1, 93, 0, 0) := by decide +kernel
theorem u147_0 {S : Option (Nat × (Nat → Int32))} {H : jm_H} {Q : Option Value → jm_H → Prop} {r0 : Nat} {x1 x2 : Int32} : jm_w S 6 147 0 [.ref r0, .int x1, .int x2] [] H Q = jm_c S 93 [.int x1, .int x2] H (fun v G => jm_w S 6 147 5 [.ref r0, .int x1, .int x2] (v.toList ++ []) G Q) := (js1 at147_0 rfl rfl rfl).trans ((js1 at147_1 rfl rfl rfl).trans (jscall (H := H) (as := [.int x1, .int x2]) (q := []) at147_2 rfl rv147i_143 (jscut rfl rfl rfl (Nat.le_of_ble_eq_true rfl)) rfl (Nat.le_of_ble_eq_true rfl) rfl rfl))
theorem at147_5 : jm_at 147 5 = some (.ifCond .ne 5) := by decide +kernel
theorem u147_5 {S : Option (Nat × (Nat → Int32))} {H : jm_H} {Q : Option Value → jm_H → Prop} {r0 : Nat} {x1 x2 p0 : Int32} : jm_w S 6 147 5 [.ref r0, .int x1, .int x2] [.int p0] H Q = if ¬ p0 = 0 then jm_w S 6 147 10 [.ref r0, .int x1, .int x2] [] H Q else jm_w S 6 147 8 [.ref r0, .int x1, .int x2] [] H Q := jsif (P := ¬ p0 = 0) at147_5 rfl rfl
theorem at147_8 : jm_at 147 8 = some (.iconst (-1)) := by decide +kernel
theorem at147_9 : jm_at 147 9 = some (.ireturn) := by decide +kernel
theorem u147_8 {S : Option (Nat × (Nat → Int32))} {H : jm_H} {Q : Option Value → jm_H → Prop} {r0 : Nat} {x1 x2 : Int32} : jm_w S 6 147 8 [.ref r0, .int x1, .int x2] [] H Q = Q (some (.int (-1 : Int32))) H := (jsci at147_8 rfl rfl).trans (jsret_i at147_9 rfl)
theorem at147_10 : jm_at 147 10 = some (.aload_n 0) := by decide +kernel
theorem at147_11 : jm_at 147 11 = some (.getfield 53) := by decide +kernel
theorem rv147g_53 : jm_rv 147 (.getfield 53) = (0, 11, 7, 0) := by decide +kernel
theorem at147_14 : jm_at 147 14 = some (.getfield 127) := by decide +kernel
theorem rv147g_127 : jm_rv 147 (.getfield 127) = (0, 6, 0, 0) := by decide +kernel
theorem at147_17 : jm_at 147 17 = some (.aload_n 0) := by decide +kernel
theorem at147_18 : jm_at 147 18 = some (.getfield 43) := by decide +kernel
theorem rv147g_43 : jm_rv 147 (.getfield 43) = (0, 11, 5, 0) := by decide +kernel
theorem at147_21 : jm_at 147 21 = some (.invokevirtual 322) := by decide +kernel
theorem rv147i_322 : jm_rv 147 (.invokevirtual 322) = (2, 83, 0, 0) := by decide +kernel
theorem u147_10 {S : Option (Nat × (Nat → Int32))} {H : jm_H} {Q : Option Value → jm_H → Prop} {r0 : Nat} {x1 x2 : Int32} (h0 : jm_tg H r0 = 12) (h1 : ¬ jm_R H r0 7 = 0) (h2 : jm_tg H (jm_R H r0 7) = 7) (h3 : ¬ jm_R H (jm_R H r0 7) 0 = 0) (h4 : ¬ jm_R H r0 5 = 0) (h5 : jm_tg H (jm_R H (jm_R H r0 7) 0) = 8) : jm_w S 6 147 10 [.ref r0, .int x1, .int x2] [] H Q = jm_c S 83 [.ref (jm_R H (jm_R H r0 7) 0), .ref (jm_R H r0 5)] H (fun v G => jm_w S 6 147 24 [.ref r0, .int x1, .int x2] (v.toList ++ []) G Q) := (js1 at147_10 rfl rfl rfl).trans ((jsgR (H := H) at147_11 rv147g_53 rfl h0 h1 rfl).trans ((jsgR (H := H) at147_14 rv147g_127 rfl h2 h3 rfl).trans ((js1 at147_17 rfl rfl rfl).trans ((jsgR (H := H) at147_18 rv147g_43 rfl h0 h4 rfl).trans (jscall (H := H) (as := [.ref (jm_R H (jm_R H r0 7) 0), .ref (jm_R H r0 5)]) (q := []) at147_21 rfl rv147i_322 (jscutV rfl rfl rfl (Nat.le_of_ble_eq_true rfl) rfl h5) rfl (Nat.le_of_ble_eq_true rfl) rfl rfl)))))
theorem at147_24 : jm_at 147 24 = some (.aload_n 0) := by decide +kernel
theorem at147_25 : jm_at 147 25 = some (.getfield 32) := by decide +kernel
theorem rv147g_32 : jm_rv 147 (.getfield 32) = (0, 11, 3, 0) := by decide +kernel
theorem at147_28 : jm_at 147 28 = some (.iload_n 1) := by decide +kernel
theorem at147_29 : jm_at 147 29 = some (.iload_n 2) := by decide +kernel
theorem at147_30 : jm_at 147 30 = some (.aload_n 0) := by decide +kernel
theorem at147_31 : jm_at 147 31 = some (.getfield 43) := by decide +kernel
theorem at147_34 : jm_at 147 34 = some (.invokevirtual 291) := by decide +kernel
theorem rv147i_291 : jm_rv 147 (.invokevirtual 291) = (2, 49, 0, 0) := by decide +kernel
theorem u147_24 {S : Option (Nat × (Nat → Int32))} {H : jm_H} {Q : Option Value → jm_H → Prop} {r0 : Nat} {x1 x2 : Int32} (h0 : jm_tg H r0 = 12) (h1 : ¬ jm_R H r0 3 = 0) (h2 : ¬ jm_R H r0 5 = 0) (h3 : jm_tg H (jm_R H r0 3) = 4) : jm_w S 6 147 24 [.ref r0, .int x1, .int x2] [] H Q = jm_c S 49 [.ref (jm_R H r0 3), .int x1, .int x2, .ref (jm_R H r0 5)] H (fun v G => jm_w S 6 147 37 [.ref r0, .int x1, .int x2] (v.toList ++ []) G Q) := (js1 at147_24 rfl rfl rfl).trans ((jsgR (H := H) at147_25 rv147g_32 rfl h0 h1 rfl).trans ((js1 at147_28 rfl rfl rfl).trans ((js1 at147_29 rfl rfl rfl).trans ((js1 at147_30 rfl rfl rfl).trans ((jsgR (H := H) at147_31 rv147g_43 rfl h0 h2 rfl).trans (jscall (H := H) (as := [.ref (jm_R H r0 3), .int x1, .int x2, .ref (jm_R H r0 5)]) (q := []) at147_34 rfl rv147i_291 (jscutV rfl rfl rfl (Nat.le_of_ble_eq_true rfl) rfl h3) rfl (Nat.le_of_ble_eq_true rfl) rfl rfl))))))
theorem at147_37 : jm_at 147 37 = some (.ireturn) := by decide +kernel
theorem u147_37 {S : Option (Nat × (Nat → Int32))} {H : jm_H} {Q : Option Value → jm_H → Prop} {r0 : Nat} {x1 x2 p0 : Int32} : jm_w S 6 147 37 [.ref r0, .int x1, .int x2] [.int p0] H Q = Q (some (.int p0)) H := jsret_i at147_37 rfl
theorem en147 {S : Option (Nat × (Nat → Int32))} {H : jm_H} {Q : Option Value → jm_H → Prop} {r0 : Nat} {x1 x2 : Int32} : jm_c S 147 [.ref r0, .int x1, .int x2] H Q = jm_w S 6 147 0 [.ref r0, .int x1, .int x2] [] H Q := rfl
theorem at148_0 : jm_at 148 0 = some (.iload_n 1) := by decide +kernel
theorem at148_1 : jm_at 148 1 = some (.ifCond .lt 32) := by decide +kernel
theorem u148_0 {S : Option (Nat × (Nat → Int32))} {H : jm_H} {Q : Option Value → jm_H → Prop} {r0 : Nat} {x1 x2 : Int32} : jm_w S 5 148 0 [.ref r0, .int x1, .int x2] [] H Q = if x1 < 0 then jm_w S 5 148 33 [.ref r0, .int x1, .int x2] [] H Q else jm_w S 5 148 4 [.ref r0, .int x1, .int x2] [] H Q := (js1 at148_0 rfl rfl rfl).trans (jsif (P := x1 < 0) at148_1 rfl rfl)
theorem at148_4 : jm_at 148 4 = some (.iload_n 1) := by decide +kernel
theorem at148_5 : jm_at 148 5 = some (.aload_n 0) := by decide +kernel
theorem at148_6 : jm_at 148 6 = some (.getfield 87) := by decide +kernel
theorem rv148g_87 : jm_rv 148 (.getfield 87) = (0, 11, 13, 0) := by decide +kernel
theorem at148_9 : jm_at 148 9 = some (.getfield 325) := by decide +kernel
theorem rv148g_325 : jm_rv 148 (.getfield 325) = (0, 9, 3, 0) := by decide +kernel
theorem at148_12 : jm_at 148 12 = some (.if_icmp .ge 21) := by decide +kernel
theorem u148_4 {S : Option (Nat × (Nat → Int32))} {H : jm_H} {Q : Option Value → jm_H → Prop} {r0 : Nat} {x1 x2 : Int32} (h0 : jm_tg H r0 = 12) (h1 : ¬ jm_R H r0 13 = 0) (h2 : jm_tg H (jm_R H r0 13) = 10) : jm_w S 5 148 4 [.ref r0, .int x1, .int x2] [] H Q = if (jm_I H (jm_R H r0 13) 3) ≤ x1 then jm_w S 5 148 33 [.ref r0, .int x1, .int x2] [] H Q else jm_w S 5 148 15 [.ref r0, .int x1, .int x2] [] H Q := (js1 at148_4 rfl rfl rfl).trans ((js1 at148_5 rfl rfl rfl).trans ((jsgR (H := H) at148_6 rv148g_87 rfl h0 h1 rfl).trans ((jsgI (H := H) at148_9 rv148g_325 (Or.inl rfl) h2 rfl).trans (jsif (P := (jm_I H (jm_R H r0 13) 3) ≤ x1) at148_12 rfl rfl))))
theorem at148_15 : jm_at 148 15 = some (.iload_n 1) := by decide +kernel
theorem at148_16 : jm_at 148 16 = some (.aload_n 0) := by decide +kernel
theorem at148_17 : jm_at 148 17 = some (.getfield 68) := by decide +kernel
theorem rv148g_68 : jm_rv 148 (.getfield 68) = (0, 11, 10, 0) := by decide +kernel
theorem at148_20 : jm_at 148 20 = some (.arraylength) := by decide +kernel
theorem at148_21 : jm_at 148 21 = some (.if_icmp .ge 12) := by decide +kernel
theorem u148_15 {S : Option (Nat × (Nat → Int32))} {H : jm_H} {Q : Option Value → jm_H → Prop} {r0 : Nat} {x1 x2 : Int32} (h0 : jm_tg H r0 = 12) (h1 : ¬ jm_R H r0 10 = 0) (h2 : ¬ (jm_R H r0 10) = 1) (h3 : 100 ≤ jm_tg H (jm_R H r0 10)) : jm_w S 5 148 15 [.ref r0, .int x1, .int x2] [] H Q = if (Int32.ofNat (jm_ln H (jm_R H r0 10))) ≤ x1 then jm_w S 5 148 33 [.ref r0, .int x1, .int x2] [] H Q else jm_w S 5 148 24 [.ref r0, .int x1, .int x2] [] H Q := (js1 at148_15 rfl rfl rfl).trans ((js1 at148_16 rfl rfl rfl).trans ((jsgR (H := H) at148_17 rv148g_68 rfl h0 h1 rfl).trans ((jsaln (H := H) at148_20 h2 h3 rfl).trans (jsif (P := (Int32.ofNat (jm_ln H (jm_R H r0 10))) ≤ x1) at148_21 rfl rfl))))
theorem at148_24 : jm_at 148 24 = some (.iload_n 2) := by decide +kernel
theorem at148_25 : jm_at 148 25 = some (.ifCond .lt 8) := by decide +kernel
theorem u148_24 {S : Option (Nat × (Nat → Int32))} {H : jm_H} {Q : Option Value → jm_H → Prop} {r0 : Nat} {x1 x2 : Int32} : jm_w S 5 148 24 [.ref r0, .int x1, .int x2] [] H Q = if x2 < 0 then jm_w S 5 148 33 [.ref r0, .int x1, .int x2] [] H Q else jm_w S 5 148 28 [.ref r0, .int x1, .int x2] [] H Q := (js1 at148_24 rfl rfl rfl).trans (jsif (P := x2 < 0) at148_25 rfl rfl)
theorem at148_28 : jm_at 148 28 = some (.iload_n 2) := by decide +kernel
theorem at148_29 : jm_at 148 29 = some (.iconst 3) := by decide +kernel
theorem at148_30 : jm_at 148 30 = some (.if_icmp .le 6) := by decide +kernel
theorem u148_28 {S : Option (Nat × (Nat → Int32))} {H : jm_H} {Q : Option Value → jm_H → Prop} {r0 : Nat} {x1 x2 : Int32} : jm_w S 5 148 28 [.ref r0, .int x1, .int x2] [] H Q = if x2 ≤ (3 : Int32) then jm_w S 5 148 36 [.ref r0, .int x1, .int x2] [] H Q else jm_w S 5 148 33 [.ref r0, .int x1, .int x2] [] H Q := (js1 at148_28 rfl rfl rfl).trans ((jsci at148_29 rfl rfl).trans (jsif (P := x2 ≤ (3 : Int32)) at148_30 rfl rfl))
theorem at148_33 : jm_at 148 33 = some (.ldc 193) := by decide +kernel
theorem rv148l_193 : jm_rv 148 (.ldc 193) = (8, 0, 0, (-100000)) := by decide +kernel
theorem at148_35 : jm_at 148 35 = some (.ireturn) := by decide +kernel
theorem u148_33 {S : Option (Nat × (Nat → Int32))} {H : jm_H} {Q : Option Value → jm_H → Prop} {r0 : Nat} {x1 x2 : Int32} : jm_w S 5 148 33 [.ref r0, .int x1, .int x2] [] H Q = Q (some (.int (-100000 : Int32))) H := (jsk at148_33 rv148l_193 rfl rfl).trans (jsret_i at148_35 rfl)
theorem at148_36 : jm_at 148 36 = some (.iload_n 2) := by decide +kernel
theorem at148_37 : jm_at 148 37 = some (.ifCond .ne 10) := by decide +kernel
theorem u148_36 {S : Option (Nat × (Nat → Int32))} {H : jm_H} {Q : Option Value → jm_H → Prop} {r0 : Nat} {x1 x2 : Int32} : jm_w S 5 148 36 [.ref r0, .int x1, .int x2] [] H Q = if ¬ x2 = 0 then jm_w S 5 148 47 [.ref r0, .int x1, .int x2] [] H Q else jm_w S 5 148 40 [.ref r0, .int x1, .int x2] [] H Q := (js1 at148_36 rfl rfl rfl).trans (jsif (P := ¬ x2 = 0) at148_37 rfl rfl)
theorem at148_40 : jm_at 148 40 = some (.aload_n 0) := by decide +kernel
theorem at148_41 : jm_at 148 41 = some (.getfield 68) := by decide +kernel
theorem at148_44 : jm_at 148 44 = some (.iload_n 1) := by decide +kernel
theorem at148_45 : jm_at 148 45 = some (.iaload) := by decide +kernel
theorem at148_46 : jm_at 148 46 = some (.ireturn) := by decide +kernel
theorem u148_40 {S : Option (Nat × (Nat → Int32))} {H : jm_H} {Q : Option Value → jm_H → Prop} {r0 : Nat} {x1 x2 : Int32} (h0 : jm_tg H r0 = 12) (h1 : ¬ jm_R H r0 10 = 0) (h2 : ¬ (x1 < 0 ∨ jm_ln H (jm_R H r0 10) ≤ Int32.toNatClampNeg x1)) (h3 : ¬ (jm_R H r0 10) = 1) (h4 : jm_tg H (jm_R H r0 10) = 100) : jm_w S 5 148 40 [.ref r0, .int x1, .int x2] [] H Q = Q (some (.int (jm_I H (jm_R H r0 10) (Int32.toNatClampNeg x1)))) H := (js1 at148_40 rfl rfl rfl).trans ((jsgR (H := H) at148_41 rv148g_68 rfl h0 h1 rfl).trans ((js1 at148_44 rfl rfl rfl).trans ((jsial (H := H) at148_45 h3 h4 h2 rfl).trans (jsret_i at148_46 rfl))))
theorem at148_47 : jm_at 148 47 = some (.aload_n 0) := by decide +kernel
theorem at148_48 : jm_at 148 48 = some (.getfield 43) := by decide +kernel
theorem rv148g_43 : jm_rv 148 (.getfield 43) = (0, 11, 5, 0) := by decide +kernel
theorem at148_51 : jm_at 148 51 = some (.aload_n 0) := by decide +kernel
theorem at148_52 : jm_at 148 52 = some (.getfield 53) := by decide +kernel
theorem rv148g_53 : jm_rv 148 (.getfield 53) = (0, 11, 7, 0) := by decide +kernel
theorem at148_55 : jm_at 148 55 = some (.getfield 114) := by decide +kernel
theorem rv148g_114 : jm_rv 148 (.getfield 114) = (0, 6, 1, 0) := by decide +kernel
theorem at148_58 : jm_at 148 58 = some (.aload_n 0) := by decide +kernel
theorem at148_59 : jm_at 148 59 = some (.getfield 53) := by decide +kernel
theorem at148_62 : jm_at 148 62 = some (.getfield 117) := by decide +kernel
theorem rv148g_117 : jm_rv 148 (.getfield 117) = (0, 6, 2, 0) := by decide +kernel
theorem at148_65 : jm_at 148 65 = some (.aload_n 0) := by decide +kernel
theorem at148_66 : jm_at 148 66 = some (.getfield 68) := by decide +kernel
theorem at148_69 : jm_at 148 69 = some (.iload_n 1) := by decide +kernel
theorem at148_70 : jm_at 148 70 = some (.iaload) := by decide +kernel
theorem at148_71 : jm_at 148 71 = some (.invokevirtual 156) := by decide +kernel
theorem rv148i_156 : jm_rv 148 (.invokevirtual 156) = (2, 68, 0, 0) := by decide +kernel
theorem u148_47 {S : Option (Nat × (Nat → Int32))} {H : jm_H} {Q : Option Value → jm_H → Prop} {r0 : Nat} {x1 x2 : Int32} (h0 : jm_tg H r0 = 12) (h1 : ¬ jm_R H r0 5 = 0) (h2 : ¬ jm_R H r0 7 = 0) (h3 : jm_tg H (jm_R H r0 7) = 7) (h4 : ¬ jm_R H r0 10 = 0) (h5 : ¬ (x1 < 0 ∨ jm_ln H (jm_R H r0 10) ≤ Int32.toNatClampNeg x1)) (h6 : ¬ (jm_R H r0 10) = 1) (h7 : jm_tg H (jm_R H r0 10) = 100) (h8 : jm_tg H (jm_R H r0 5) = 3) : jm_w S 5 148 47 [.ref r0, .int x1, .int x2] [] H Q = jm_c S 68 [.ref (jm_R H r0 5), .int (jm_I H (jm_R H r0 7) 1), .int (jm_I H (jm_R H r0 7) 2), .int (jm_I H (jm_R H r0 10) (Int32.toNatClampNeg x1))] H (fun v G => jm_w S 5 148 74 [.ref r0, .int x1, .int x2] (v.toList ++ []) G Q) := (js1 at148_47 rfl rfl rfl).trans ((jsgR (H := H) at148_48 rv148g_43 rfl h0 h1 rfl).trans ((js1 at148_51 rfl rfl rfl).trans ((jsgR (H := H) at148_52 rv148g_53 rfl h0 h2 rfl).trans ((jsgI (H := H) at148_55 rv148g_114 (Or.inl rfl) h3 rfl).trans ((js1 at148_58 rfl rfl rfl).trans ((jsgR (H := H) at148_59 rv148g_53 rfl h0 h2 rfl).trans ((jsgI (H := H) at148_62 rv148g_117 (Or.inl rfl) h3 rfl).trans ((js1 at148_65 rfl rfl rfl).trans ((jsgR (H := H) at148_66 rv148g_68 rfl h0 h4 rfl).trans ((js1 at148_69 rfl rfl rfl).trans ((jsial (H := H) at148_70 h6 h7 h5 rfl).trans (jscall (H := H) (as := [.ref (jm_R H r0 5), .int (jm_I H (jm_R H r0 7) 1), .int (jm_I H (jm_R H r0 7) 2), .int (jm_I H (jm_R H r0 10) (Int32.toNatClampNeg x1))]) (q := []) at148_71 rfl rv148i_156 (jscutV rfl rfl rfl (Nat.le_of_ble_eq_true rfl) rfl h8) rfl (Nat.le_of_ble_eq_true rfl) rfl rfl))))))))))))
theorem at148_74 : jm_at 148 74 = some (.aload_n 0) := by decide +kernel
theorem at148_75 : jm_at 148 75 = some (.getfield 43) := by decide +kernel
theorem at148_78 : jm_at 148 78 = some (.getfield 327) := by decide +kernel
theorem rv148g_327 : jm_rv 148 (.getfield 327) = (0, 2, 1, 0) := by decide +kernel
theorem at148_81 : jm_at 148 81 = some (.ifCond .ne 18) := by decide +kernel
theorem u148_74 {S : Option (Nat × (Nat → Int32))} {H : jm_H} {Q : Option Value → jm_H → Prop} {r0 : Nat} {x1 x2 : Int32} (h0 : jm_tg H r0 = 12) (h1 : ¬ jm_R H r0 5 = 0) (h2 : jm_tg H (jm_R H r0 5) = 3) : jm_w S 5 148 74 [.ref r0, .int x1, .int x2] [] H Q = if ¬ (jm_I H (jm_R H r0 5) 1) = 0 then jm_w S 5 148 99 [.ref r0, .int x1, .int x2] [] H Q else jm_w S 5 148 84 [.ref r0, .int x1, .int x2] [] H Q := (js1 at148_74 rfl rfl rfl).trans ((jsgR (H := H) at148_75 rv148g_43 rfl h0 h1 rfl).trans ((jsgI (H := H) at148_78 rv148g_327 (Or.inr rfl) h2 rfl).trans (jsif (P := ¬ (jm_I H (jm_R H r0 5) 1) = 0) at148_81 rfl rfl)))
theorem at148_84 : jm_at 148 84 = some (.iload_n 2) := by decide +kernel
theorem at148_85 : jm_at 148 85 = some (.iconst 1) := by decide +kernel
theorem at148_86 : jm_at 148 86 = some (.if_icmp .le 16) := by decide +kernel
theorem u148_84 {S : Option (Nat × (Nat → Int32))} {H : jm_H} {Q : Option Value → jm_H → Prop} {r0 : Nat} {x1 x2 : Int32} : jm_w S 5 148 84 [.ref r0, .int x1, .int x2] [] H Q = if x2 ≤ (1 : Int32) then jm_w S 5 148 102 [.ref r0, .int x1, .int x2] [] H Q else jm_w S 5 148 89 [.ref r0, .int x1, .int x2] [] H Q := (js1 at148_84 rfl rfl rfl).trans ((jsci at148_85 rfl rfl).trans (jsif (P := x2 ≤ (1 : Int32)) at148_86 rfl rfl))
theorem at148_89 : jm_at 148 89 = some (.aload_n 0) := by decide +kernel
theorem at148_90 : jm_at 148 90 = some (.getfield 43) := by decide +kernel
theorem at148_93 : jm_at 148 93 = some (.getfield 328) := by decide +kernel
theorem rv148g_328 : jm_rv 148 (.getfield 328) = (0, 2, 2, 0) := by decide +kernel
theorem at148_96 : jm_at 148 96 = some (.ifCond .ne 6) := by decide +kernel
theorem u148_89 {S : Option (Nat × (Nat → Int32))} {H : jm_H} {Q : Option Value → jm_H → Prop} {r0 : Nat} {x1 x2 : Int32} (h0 : jm_tg H r0 = 12) (h1 : ¬ jm_R H r0 5 = 0) (h2 : jm_tg H (jm_R H r0 5) = 3) : jm_w S 5 148 89 [.ref r0, .int x1, .int x2] [] H Q = if ¬ (jm_I H (jm_R H r0 5) 2) = 0 then jm_w S 5 148 102 [.ref r0, .int x1, .int x2] [] H Q else jm_w S 5 148 99 [.ref r0, .int x1, .int x2] [] H Q := (js1 at148_89 rfl rfl rfl).trans ((jsgR (H := H) at148_90 rv148g_43 rfl h0 h1 rfl).trans ((jsgI (H := H) at148_93 rv148g_328 (Or.inl rfl) h2 rfl).trans (jsif (P := ¬ (jm_I H (jm_R H r0 5) 2) = 0) at148_96 rfl rfl)))
theorem at148_99 : jm_at 148 99 = some (.bipush (-2)) := by decide +kernel
theorem at148_101 : jm_at 148 101 = some (.ireturn) := by decide +kernel
theorem u148_99 {S : Option (Nat × (Nat → Int32))} {H : jm_H} {Q : Option Value → jm_H → Prop} {r0 : Nat} {x1 x2 : Int32} : jm_w S 5 148 99 [.ref r0, .int x1, .int x2] [] H Q = Q (some (.int (-2 : Int32))) H := (jscb at148_99 rfl rfl).trans (jsret_i at148_101 rfl)
theorem at148_102 : jm_at 148 102 = some (.iload_n 2) := by decide +kernel
theorem at148_103 : jm_at 148 103 = some (.iconst 1) := by decide +kernel
theorem at148_104 : jm_at 148 104 = some (.if_icmp .ne 11) := by decide +kernel
theorem u148_102 {S : Option (Nat × (Nat → Int32))} {H : jm_H} {Q : Option Value → jm_H → Prop} {r0 : Nat} {x1 x2 : Int32} : jm_w S 5 148 102 [.ref r0, .int x1, .int x2] [] H Q = if ¬ x2 = (1 : Int32) then jm_w S 5 148 115 [.ref r0, .int x1, .int x2] [] H Q else jm_w S 5 148 107 [.ref r0, .int x1, .int x2] [] H Q := (js1 at148_102 rfl rfl rfl).trans ((jsci at148_103 rfl rfl).trans (jsif (P := ¬ x2 = (1 : Int32)) at148_104 rfl rfl))
theorem at148_107 : jm_at 148 107 = some (.aload_n 0) := by decide +kernel
theorem at148_108 : jm_at 148 108 = some (.getfield 43) := by decide +kernel
theorem at148_111 : jm_at 148 111 = some (.invokevirtual 209) := by decide +kernel
theorem rv148i_209 : jm_rv 148 (.invokevirtual 209) = (2, 109, 0, 0) := by decide +kernel
theorem u148_107 {S : Option (Nat × (Nat → Int32))} {H : jm_H} {Q : Option Value → jm_H → Prop} {r0 : Nat} {x1 x2 : Int32} (h0 : jm_tg H r0 = 12) (h1 : ¬ jm_R H r0 5 = 0) (h2 : jm_tg H (jm_R H r0 5) = 3) : jm_w S 5 148 107 [.ref r0, .int x1, .int x2] [] H Q = jm_c S 109 [.ref (jm_R H r0 5)] H (fun v G => jm_w S 5 148 114 [.ref r0, .int x1, .int x2] (v.toList ++ []) G Q) := (js1 at148_107 rfl rfl rfl).trans ((jsgR (H := H) at148_108 rv148g_43 rfl h0 h1 rfl).trans (jscall (H := H) (as := [.ref (jm_R H r0 5)]) (q := []) at148_111 rfl rv148i_209 (jscutV rfl rfl rfl (Nat.le_of_ble_eq_true rfl) rfl h2) rfl (Nat.le_of_ble_eq_true rfl) rfl rfl))
theorem at148_114 : jm_at 148 114 = some (.ireturn) := by decide +kernel
theorem u148_114 {S : Option (Nat × (Nat → Int32))} {H : jm_H} {Q : Option Value → jm_H → Prop} {r0 : Nat} {x1 x2 p0 : Int32} : jm_w S 5 148 114 [.ref r0, .int x1, .int x2] [.int p0] H Q = Q (some (.int p0)) H := jsret_i at148_114 rfl
theorem at148_115 : jm_at 148 115 = some (.iload_n 2) := by decide +kernel
theorem at148_116 : jm_at 148 116 = some (.iconst 2) := by decide +kernel
theorem at148_117 : jm_at 148 117 = some (.if_icmp .ne 14) := by decide +kernel
theorem u148_115 {S : Option (Nat × (Nat → Int32))} {H : jm_H} {Q : Option Value → jm_H → Prop} {r0 : Nat} {x1 x2 : Int32} : jm_w S 5 148 115 [.ref r0, .int x1, .int x2] [] H Q = if ¬ x2 = (2 : Int32) then jm_w S 5 148 131 [.ref r0, .int x1, .int x2] [] H Q else jm_w S 5 148 120 [.ref r0, .int x1, .int x2] [] H Q := (js1 at148_115 rfl rfl rfl).trans ((jsci at148_116 rfl rfl).trans (jsif (P := ¬ x2 = (2 : Int32)) at148_117 rfl rfl))
theorem at148_120 : jm_at 148 120 = some (.aload_n 0) := by decide +kernel
theorem at148_121 : jm_at 148 121 = some (.getfield 43) := by decide +kernel
theorem at148_124 : jm_at 148 124 = some (.getfield 244) := by decide +kernel
theorem rv148g_244 : jm_rv 148 (.getfield 244) = (0, 2, 3, 0) := by decide +kernel
theorem at148_127 : jm_at 148 127 = some (.l2i) := by decide +kernel
theorem at148_128 : jm_at 148 128 = some (.goto 10) := by decide +kernel
theorem u148_120 {S : Option (Nat × (Nat → Int32))} {H : jm_H} {Q : Option Value → jm_H → Prop} {r0 : Nat} {x1 x2 : Int32} (h0 : jm_tg H r0 = 12) (h1 : ¬ jm_R H r0 5 = 0) (h2 : jm_tg H (jm_R H r0 5) = 3) : jm_w S 5 148 120 [.ref r0, .int x1, .int x2] [] H Q = jm_w S 5 148 138 [.ref r0, .int x1, .int x2] [.int (Int64.toInt32 (jm_L H (jm_R H r0 5) 3))] H Q := (js1 at148_120 rfl rfl rfl).trans ((jsgR (H := H) at148_121 rv148g_43 rfl h0 h1 rfl).trans ((jsgL (H := H) at148_124 rv148g_244 rfl h2 rfl).trans ((js0 at148_127 rfl rfl rfl).trans (js2 at148_128 rfl rfl))))
theorem at148_131 : jm_at 148 131 = some (.aload_n 0) := by decide +kernel
theorem at148_132 : jm_at 148 132 = some (.getfield 43) := by decide +kernel
theorem at148_135 : jm_at 148 135 = some (.getfield 248) := by decide +kernel
theorem rv148g_248 : jm_rv 148 (.getfield 248) = (0, 2, 4, 0) := by decide +kernel
theorem u148_131 {S : Option (Nat × (Nat → Int32))} {H : jm_H} {Q : Option Value → jm_H → Prop} {r0 : Nat} {x1 x2 : Int32} (h0 : jm_tg H r0 = 12) (h1 : ¬ jm_R H r0 5 = 0) (h2 : jm_tg H (jm_R H r0 5) = 3) : jm_w S 5 148 131 [.ref r0, .int x1, .int x2] [] H Q = jm_w S 5 148 138 [.ref r0, .int x1, .int x2] [.int (jm_I H (jm_R H r0 5) 4)] H Q := (js1 at148_131 rfl rfl rfl).trans ((jsgR (H := H) at148_132 rv148g_43 rfl h0 h1 rfl).trans (jsgI (H := H) at148_135 rv148g_248 (Or.inl rfl) h2 rfl))
theorem at148_138 : jm_at 148 138 = some (.ireturn) := by decide +kernel
theorem u148_138 {S : Option (Nat × (Nat → Int32))} {H : jm_H} {Q : Option Value → jm_H → Prop} {r0 : Nat} {x1 x2 p0 : Int32} : jm_w S 5 148 138 [.ref r0, .int x1, .int x2] [.int p0] H Q = Q (some (.int p0)) H := jsret_i at148_138 rfl
theorem en148 {S : Option (Nat × (Nat → Int32))} {H : jm_H} {Q : Option Value → jm_H → Prop} {r0 : Nat} {x1 x2 : Int32} : jm_c S 148 [.ref r0, .int x1, .int x2] H Q = jm_w S 5 148 0 [.ref r0, .int x1, .int x2] [] H Q := rfl
theorem at149_0 : jm_at 149 0 = some (.iload_n 1) := by decide +kernel
theorem u149_0 {S : Option (Nat × (Nat → Int32))} {H : jm_H} {Q : Option Value → jm_H → Prop} {r0 : Nat} {x1 : Int32} : jm_w S 6 149 0 [.ref r0, .int x1] [] H Q = jm_w S 6 149 1 [.ref r0, .int x1] [.int x1] H Q := js1 at149_0 rfl rfl rfl
theorem at149_1 : jm_at 149 1 = some (.tableswitch 205 0 10 #[59, 67, 75, 83, 112, 117, 122, 130, 135, 140, 183]) := by decide +kernel
theorem u149_1_0 {S : Option (Nat × (Nat → Int32))} {H : jm_H} {Q : Option Value → jm_H → Prop} {r0 : Nat} {x1 : Int32} : jm_w S 6 149 1 [.ref r0, .int x1] [.int 0] H Q = jm_w S 6 149 60 [.ref r0, .int x1] [] H Q := js2 at149_1 rfl rfl
theorem u149_1_1 {S : Option (Nat × (Nat → Int32))} {H : jm_H} {Q : Option Value → jm_H → Prop} {r0 : Nat} {x1 : Int32} : jm_w S 6 149 1 [.ref r0, .int x1] [.int 1] H Q = jm_w S 6 149 68 [.ref r0, .int x1] [] H Q := js2 at149_1 rfl rfl
theorem u149_1_2 {S : Option (Nat × (Nat → Int32))} {H : jm_H} {Q : Option Value → jm_H → Prop} {r0 : Nat} {x1 : Int32} : jm_w S 6 149 1 [.ref r0, .int x1] [.int 2] H Q = jm_w S 6 149 76 [.ref r0, .int x1] [] H Q := js2 at149_1 rfl rfl
theorem u149_1_3 {S : Option (Nat × (Nat → Int32))} {H : jm_H} {Q : Option Value → jm_H → Prop} {r0 : Nat} {x1 : Int32} : jm_w S 6 149 1 [.ref r0, .int x1] [.int 3] H Q = jm_w S 6 149 84 [.ref r0, .int x1] [] H Q := js2 at149_1 rfl rfl
theorem u149_1_4 {S : Option (Nat × (Nat → Int32))} {H : jm_H} {Q : Option Value → jm_H → Prop} {r0 : Nat} {x1 : Int32} : jm_w S 6 149 1 [.ref r0, .int x1] [.int 4] H Q = jm_w S 6 149 113 [.ref r0, .int x1] [] H Q := js2 at149_1 rfl rfl
theorem u149_1_5 {S : Option (Nat × (Nat → Int32))} {H : jm_H} {Q : Option Value → jm_H → Prop} {r0 : Nat} {x1 : Int32} : jm_w S 6 149 1 [.ref r0, .int x1] [.int 5] H Q = jm_w S 6 149 118 [.ref r0, .int x1] [] H Q := js2 at149_1 rfl rfl
theorem u149_1_6 {S : Option (Nat × (Nat → Int32))} {H : jm_H} {Q : Option Value → jm_H → Prop} {r0 : Nat} {x1 : Int32} : jm_w S 6 149 1 [.ref r0, .int x1] [.int 6] H Q = jm_w S 6 149 123 [.ref r0, .int x1] [] H Q := js2 at149_1 rfl rfl
theorem u149_1_7 {S : Option (Nat × (Nat → Int32))} {H : jm_H} {Q : Option Value → jm_H → Prop} {r0 : Nat} {x1 : Int32} : jm_w S 6 149 1 [.ref r0, .int x1] [.int 7] H Q = jm_w S 6 149 131 [.ref r0, .int x1] [] H Q := js2 at149_1 rfl rfl
theorem u149_1_8 {S : Option (Nat × (Nat → Int32))} {H : jm_H} {Q : Option Value → jm_H → Prop} {r0 : Nat} {x1 : Int32} : jm_w S 6 149 1 [.ref r0, .int x1] [.int 8] H Q = jm_w S 6 149 136 [.ref r0, .int x1] [] H Q := js2 at149_1 rfl rfl
theorem u149_1_9 {S : Option (Nat × (Nat → Int32))} {H : jm_H} {Q : Option Value → jm_H → Prop} {r0 : Nat} {x1 : Int32} : jm_w S 6 149 1 [.ref r0, .int x1] [.int 9] H Q = jm_w S 6 149 141 [.ref r0, .int x1] [] H Q := js2 at149_1 rfl rfl
theorem u149_1_10 {S : Option (Nat × (Nat → Int32))} {H : jm_H} {Q : Option Value → jm_H → Prop} {r0 : Nat} {x1 : Int32} : jm_w S 6 149 1 [.ref r0, .int x1] [.int 10] H Q = jm_w S 6 149 184 [.ref r0, .int x1] [] H Q := js2 at149_1 rfl rfl
theorem u149_1_d {S : Option (Nat × (Nat → Int32))} {H : jm_H} {Q : Option Value → jm_H → Prop} {r0 : Nat} {x1 p0 : Int32} (h : Int32.toInt p0 < 0 ∨ 10 < Int32.toInt p0) : jm_w S 6 149 1 [.ref r0, .int x1] [.int p0] H Q = jm_w S 6 149 206 [.ref r0, .int x1] [] H Q := js2 at149_1 rfl ((if_pos h).trans rfl)
theorem at149_60 : jm_at 149 60 = some (.aload_n 0) := by decide +kernel
theorem at149_61 : jm_at 149 61 = some (.getfield 53) := by decide +kernel
theorem rv149g_53 : jm_rv 149 (.getfield 53) = (0, 11, 7, 0) := by decide +kernel
theorem at149_64 : jm_at 149 64 = some (.getfield 114) := by decide +kernel
theorem rv149g_114 : jm_rv 149 (.getfield 114) = (0, 6, 1, 0) := by decide +kernel
theorem at149_67 : jm_at 149 67 = some (.ireturn) := by decide +kernel
theorem u149_60 {S : Option (Nat × (Nat → Int32))} {H : jm_H} {Q : Option Value → jm_H → Prop} {r0 : Nat} {x1 : Int32} (h0 : jm_tg H r0 = 12) (h1 : ¬ jm_R H r0 7 = 0) (h2 : jm_tg H (jm_R H r0 7) = 7) : jm_w S 6 149 60 [.ref r0, .int x1] [] H Q = Q (some (.int (jm_I H (jm_R H r0 7) 1))) H := (js1 at149_60 rfl rfl rfl).trans ((jsgR (H := H) at149_61 rv149g_53 rfl h0 h1 rfl).trans ((jsgI (H := H) at149_64 rv149g_114 (Or.inl rfl) h2 rfl).trans (jsret_i at149_67 rfl)))
theorem at149_68 : jm_at 149 68 = some (.aload_n 0) := by decide +kernel
theorem at149_69 : jm_at 149 69 = some (.getfield 53) := by decide +kernel
theorem at149_72 : jm_at 149 72 = some (.getfield 117) := by decide +kernel
theorem rv149g_117 : jm_rv 149 (.getfield 117) = (0, 6, 2, 0) := by decide +kernel
theorem at149_75 : jm_at 149 75 = some (.ireturn) := by decide +kernel
theorem u149_68 {S : Option (Nat × (Nat → Int32))} {H : jm_H} {Q : Option Value → jm_H → Prop} {r0 : Nat} {x1 : Int32} (h0 : jm_tg H r0 = 12) (h1 : ¬ jm_R H r0 7 = 0) (h2 : jm_tg H (jm_R H r0 7) = 7) : jm_w S 6 149 68 [.ref r0, .int x1] [] H Q = Q (some (.int (jm_I H (jm_R H r0 7) 2))) H := (js1 at149_68 rfl rfl rfl).trans ((jsgR (H := H) at149_69 rv149g_53 rfl h0 h1 rfl).trans ((jsgI (H := H) at149_72 rv149g_117 (Or.inl rfl) h2 rfl).trans (jsret_i at149_75 rfl)))
theorem at149_76 : jm_at 149 76 = some (.aload_n 0) := by decide +kernel
theorem at149_77 : jm_at 149 77 = some (.getfield 87) := by decide +kernel
theorem rv149g_87 : jm_rv 149 (.getfield 87) = (0, 11, 13, 0) := by decide +kernel
theorem at149_80 : jm_at 149 80 = some (.getfield 325) := by decide +kernel
theorem rv149g_325 : jm_rv 149 (.getfield 325) = (0, 9, 3, 0) := by decide +kernel
theorem at149_83 : jm_at 149 83 = some (.ireturn) := by decide +kernel
theorem u149_76 {S : Option (Nat × (Nat → Int32))} {H : jm_H} {Q : Option Value → jm_H → Prop} {r0 : Nat} {x1 : Int32} (h0 : jm_tg H r0 = 12) (h1 : ¬ jm_R H r0 13 = 0) (h2 : jm_tg H (jm_R H r0 13) = 10) : jm_w S 6 149 76 [.ref r0, .int x1] [] H Q = Q (some (.int (jm_I H (jm_R H r0 13) 3))) H := (js1 at149_76 rfl rfl rfl).trans ((jsgR (H := H) at149_77 rv149g_87 rfl h0 h1 rfl).trans ((jsgI (H := H) at149_80 rv149g_325 (Or.inl rfl) h2 rfl).trans (jsret_i at149_83 rfl)))
theorem at149_84 : jm_at 149 84 = some (.aload_n 0) := by decide +kernel
theorem at149_85 : jm_at 149 85 = some (.getfield 53) := by decide +kernel
theorem at149_88 : jm_at 149 88 = some (.getfield 127) := by decide +kernel
theorem rv149g_127 : jm_rv 149 (.getfield 127) = (0, 6, 0, 0) := by decide +kernel
theorem at149_91 : jm_at 149 91 = some (.getfield 164) := by decide +kernel
theorem rv149g_164 : jm_rv 149 (.getfield 164) = (0, 7, 2, 0) := by decide +kernel
theorem at149_94 : jm_at 149 94 = some (.ifCond .eq 8) := by decide +kernel
theorem u149_84 {S : Option (Nat × (Nat → Int32))} {H : jm_H} {Q : Option Value → jm_H → Prop} {r0 : Nat} {x1 : Int32} (h0 : jm_tg H r0 = 12) (h1 : ¬ jm_R H r0 7 = 0) (h2 : jm_tg H (jm_R H r0 7) = 7) (h3 : ¬ jm_R H (jm_R H r0 7) 0 = 0) (h4 : jm_tg H (jm_R H (jm_R H r0 7) 0) = 8) : jm_w S 6 149 84 [.ref r0, .int x1] [] H Q = if (jm_I H (jm_R H (jm_R H r0 7) 0) 2) = 0 then jm_w S 6 149 102 [.ref r0, .int x1] [] H Q else jm_w S 6 149 97 [.ref r0, .int x1] [] H Q := (js1 at149_84 rfl rfl rfl).trans ((jsgR (H := H) at149_85 rv149g_53 rfl h0 h1 rfl).trans ((jsgR (H := H) at149_88 rv149g_127 rfl h2 h3 rfl).trans ((jsgI (H := H) at149_91 rv149g_164 (Or.inr rfl) h4 rfl).trans (jsif (P := (jm_I H (jm_R H (jm_R H r0 7) 0) 2) = 0) at149_94 rfl rfl))))
theorem at149_97 : jm_at 149 97 = some (.bipush (-2)) := by decide +kernel
theorem at149_99 : jm_at 149 99 = some (.goto 13) := by decide +kernel
theorem u149_97 {S : Option (Nat × (Nat → Int32))} {H : jm_H} {Q : Option Value → jm_H → Prop} {r0 : Nat} {x1 : Int32} : jm_w S 6 149 97 [.ref r0, .int x1] [] H Q = jm_w S 6 149 112 [.ref r0, .int x1] [.int (-2 : Int32)] H Q := (jscb at149_97 rfl rfl).trans (js2 at149_99 rfl rfl)
theorem at149_102 : jm_at 149 102 = some (.aload_n 0) := by decide +kernel
theorem at149_103 : jm_at 149 103 = some (.getfield 53) := by decide +kernel
theorem at149_106 : jm_at 149 106 = some (.getfield 127) := by decide +kernel
theorem at149_109 : jm_at 149 109 = some (.invokevirtual 167) := by decide +kernel
theorem rv149i_167 : jm_rv 149 (.invokevirtual 167) = (2, 101, 0, 0) := by decide +kernel
theorem u149_102 {S : Option (Nat × (Nat → Int32))} {H : jm_H} {Q : Option Value → jm_H → Prop} {r0 : Nat} {x1 : Int32} (h0 : jm_tg H r0 = 12) (h1 : ¬ jm_R H r0 7 = 0) (h2 : jm_tg H (jm_R H r0 7) = 7) (h3 : ¬ jm_R H (jm_R H r0 7) 0 = 0) (h4 : jm_tg H (jm_R H (jm_R H r0 7) 0) = 8) : jm_w S 6 149 102 [.ref r0, .int x1] [] H Q = jm_c S 101 [.ref (jm_R H (jm_R H r0 7) 0)] H (fun v G => jm_w S 6 149 112 [.ref r0, .int x1] (v.toList ++ []) G Q) := (js1 at149_102 rfl rfl rfl).trans ((jsgR (H := H) at149_103 rv149g_53 rfl h0 h1 rfl).trans ((jsgR (H := H) at149_106 rv149g_127 rfl h2 h3 rfl).trans (jscall (H := H) (as := [.ref (jm_R H (jm_R H r0 7) 0)]) (q := []) at149_109 rfl rv149i_167 (jscutV rfl rfl rfl (Nat.le_of_ble_eq_true rfl) rfl h4) rfl (Nat.le_of_ble_eq_true rfl) rfl rfl)))
theorem at149_112 : jm_at 149 112 = some (.ireturn) := by decide +kernel
theorem u149_112 {S : Option (Nat × (Nat → Int32))} {H : jm_H} {Q : Option Value → jm_H → Prop} {r0 : Nat} {x1 p0 : Int32} : jm_w S 6 149 112 [.ref r0, .int x1] [.int p0] H Q = Q (some (.int p0)) H := jsret_i at149_112 rfl
theorem at149_113 : jm_at 149 113 = some (.aload_n 0) := by decide +kernel
theorem at149_114 : jm_at 149 114 = some (.invokevirtual 330) := by decide +kernel
theorem rv149i_330 : jm_rv 149 (.invokevirtual 330) = (2, 150, 0, 0) := by decide +kernel
theorem u149_113 {S : Option (Nat × (Nat → Int32))} {H : jm_H} {Q : Option Value → jm_H → Prop} {r0 : Nat} {x1 : Int32} (h0 : jm_tg H r0 = 12) : jm_w S 6 149 113 [.ref r0, .int x1] [] H Q = jm_c S 150 [.ref r0] H (fun v G => jm_w S 6 149 117 [.ref r0, .int x1] (v.toList ++ []) G Q) := (js1 at149_113 rfl rfl rfl).trans (jscall (H := H) (as := [.ref r0]) (q := []) at149_114 rfl rv149i_330 (jscutV rfl rfl rfl (Nat.le_of_ble_eq_true rfl) rfl h0) rfl (Nat.le_of_ble_eq_true rfl) rfl rfl)
theorem at149_117 : jm_at 149 117 = some (.ireturn) := by decide +kernel
theorem u149_117 {S : Option (Nat × (Nat → Int32))} {H : jm_H} {Q : Option Value → jm_H → Prop} {r0 : Nat} {x1 p0 : Int32} : jm_w S 6 149 117 [.ref r0, .int x1] [.int p0] H Q = Q (some (.int p0)) H := jsret_i at149_117 rfl
theorem at149_118 : jm_at 149 118 = some (.aload_n 0) := by decide +kernel
theorem at149_119 : jm_at 149 119 = some (.invokevirtual 333) := by decide +kernel
theorem rv149i_333 : jm_rv 149 (.invokevirtual 333) = (2, 151, 0, 0) := by decide +kernel
theorem u149_118 {S : Option (Nat × (Nat → Int32))} {H : jm_H} {Q : Option Value → jm_H → Prop} {r0 : Nat} {x1 : Int32} (h0 : jm_tg H r0 = 12) : jm_w S 6 149 118 [.ref r0, .int x1] [] H Q = jm_c S 151 [.ref r0] H (fun v G => jm_w S 6 149 122 [.ref r0, .int x1] (v.toList ++ []) G Q) := (js1 at149_118 rfl rfl rfl).trans (jscall (H := H) (as := [.ref r0]) (q := []) at149_119 rfl rv149i_333 (jscutV rfl rfl rfl (Nat.le_of_ble_eq_true rfl) rfl h0) rfl (Nat.le_of_ble_eq_true rfl) rfl rfl)
theorem at149_122 : jm_at 149 122 = some (.ireturn) := by decide +kernel
theorem u149_122 {S : Option (Nat × (Nat → Int32))} {H : jm_H} {Q : Option Value → jm_H → Prop} {r0 : Nat} {x1 p0 : Int32} : jm_w S 6 149 122 [.ref r0, .int x1] [.int p0] H Q = Q (some (.int p0)) H := jsret_i at149_122 rfl
theorem at149_123 : jm_at 149 123 = some (.aload_n 0) := by decide +kernel
theorem at149_124 : jm_at 149 124 = some (.getfield 20) := by decide +kernel
theorem rv149g_20 : jm_rv 149 (.getfield 20) = (0, 11, 0, 0) := by decide +kernel
theorem at149_127 : jm_at 149 127 = some (.getfield 95) := by decide +kernel
theorem rv149g_95 : jm_rv 149 (.getfield 95) = (0, 8, 1, 0) := by decide +kernel
theorem at149_130 : jm_at 149 130 = some (.ireturn) := by decide +kernel
theorem u149_123 {S : Option (Nat × (Nat → Int32))} {H : jm_H} {Q : Option Value → jm_H → Prop} {r0 : Nat} {x1 : Int32} (h0 : jm_tg H r0 = 12) (h1 : ¬ jm_R H r0 0 = 0) (h2 : jm_tg H (jm_R H r0 0) = 9) : jm_w S 6 149 123 [.ref r0, .int x1] [] H Q = Q (some (.int (jm_I H (jm_R H r0 0) 1))) H := (js1 at149_123 rfl rfl rfl).trans ((jsgR (H := H) at149_124 rv149g_20 rfl h0 h1 rfl).trans ((jsgI (H := H) at149_127 rv149g_95 (Or.inl rfl) h2 rfl).trans (jsret_i at149_130 rfl)))
theorem at149_131 : jm_at 149 131 = some (.aload_n 0) := by decide +kernel
theorem at149_132 : jm_at 149 132 = some (.getfield 136) := by decide +kernel
theorem rv149g_136 : jm_rv 149 (.getfield 136) = (0, 11, 15, 0) := by decide +kernel
theorem at149_135 : jm_at 149 135 = some (.ireturn) := by decide +kernel
theorem u149_131 {S : Option (Nat × (Nat → Int32))} {H : jm_H} {Q : Option Value → jm_H → Prop} {r0 : Nat} {x1 : Int32} (h0 : jm_tg H r0 = 12) : jm_w S 6 149 131 [.ref r0, .int x1] [] H Q = Q (some (.int (jm_I H r0 15))) H := (js1 at149_131 rfl rfl rfl).trans ((jsgI (H := H) at149_132 rv149g_136 (Or.inl rfl) h0 rfl).trans (jsret_i at149_135 rfl))
theorem at149_136 : jm_at 149 136 = some (.aload_n 0) := by decide +kernel
theorem at149_137 : jm_at 149 137 = some (.invokevirtual 336) := by decide +kernel
theorem rv149i_336 : jm_rv 149 (.invokevirtual 336) = (2, 152, 0, 0) := by decide +kernel
theorem u149_136 {S : Option (Nat × (Nat → Int32))} {H : jm_H} {Q : Option Value → jm_H → Prop} {r0 : Nat} {x1 : Int32} (h0 : jm_tg H r0 = 12) : jm_w S 6 149 136 [.ref r0, .int x1] [] H Q = jm_c S 152 [.ref r0] H (fun v G => jm_w S 6 149 140 [.ref r0, .int x1] (v.toList ++ []) G Q) := (js1 at149_136 rfl rfl rfl).trans (jscall (H := H) (as := [.ref r0]) (q := []) at149_137 rfl rv149i_336 (jscutV rfl rfl rfl (Nat.le_of_ble_eq_true rfl) rfl h0) rfl (Nat.le_of_ble_eq_true rfl) rfl rfl)
theorem at149_140 : jm_at 149 140 = some (.ireturn) := by decide +kernel
theorem u149_140 {S : Option (Nat × (Nat → Int32))} {H : jm_H} {Q : Option Value → jm_H → Prop} {r0 : Nat} {x1 p0 : Int32} : jm_w S 6 149 140 [.ref r0, .int x1] [.int p0] H Q = Q (some (.int p0)) H := jsret_i at149_140 rfl
theorem at149_141 : jm_at 149 141 = some (.aload_n 0) := by decide +kernel
theorem at149_142 : jm_at 149 142 = some (.getfield 53) := by decide +kernel
theorem at149_145 : jm_at 149 145 = some (.getfield 127) := by decide +kernel
theorem at149_148 : jm_at 149 148 = some (.getfield 164) := by decide +kernel
theorem at149_151 : jm_at 149 151 = some (.ifCond .ne 16) := by decide +kernel
theorem u149_141 {S : Option (Nat × (Nat → Int32))} {H : jm_H} {Q : Option Value → jm_H → Prop} {r0 : Nat} {x1 : Int32} (h0 : jm_tg H r0 = 12) (h1 : ¬ jm_R H r0 7 = 0) (h2 : jm_tg H (jm_R H r0 7) = 7) (h3 : ¬ jm_R H (jm_R H r0 7) 0 = 0) (h4 : jm_tg H (jm_R H (jm_R H r0 7) 0) = 8) : jm_w S 6 149 141 [.ref r0, .int x1] [] H Q = if ¬ (jm_I H (jm_R H (jm_R H r0 7) 0) 2) = 0 then jm_w S 6 149 167 [.ref r0, .int x1] [] H Q else jm_w S 6 149 154 [.ref r0, .int x1] [] H Q := (js1 at149_141 rfl rfl rfl).trans ((jsgR (H := H) at149_142 rv149g_53 rfl h0 h1 rfl).trans ((jsgR (H := H) at149_145 rv149g_127 rfl h2 h3 rfl).trans ((jsgI (H := H) at149_148 rv149g_164 (Or.inr rfl) h4 rfl).trans (jsif (P := ¬ (jm_I H (jm_R H (jm_R H r0 7) 0) 2) = 0) at149_151 rfl rfl))))
theorem at149_154 : jm_at 149 154 = some (.aload_n 0) := by decide +kernel
theorem at149_155 : jm_at 149 155 = some (.getfield 53) := by decide +kernel
theorem at149_158 : jm_at 149 158 = some (.getfield 127) := by decide +kernel
theorem at149_161 : jm_at 149 161 = some (.invokevirtual 167) := by decide +kernel
theorem u149_154 {S : Option (Nat × (Nat → Int32))} {H : jm_H} {Q : Option Value → jm_H → Prop} {r0 : Nat} {x1 : Int32} (h0 : jm_tg H r0 = 12) (h1 : ¬ jm_R H r0 7 = 0) (h2 : jm_tg H (jm_R H r0 7) = 7) (h3 : ¬ jm_R H (jm_R H r0 7) 0 = 0) (h4 : jm_tg H (jm_R H (jm_R H r0 7) 0) = 8) : jm_w S 6 149 154 [.ref r0, .int x1] [] H Q = jm_c S 101 [.ref (jm_R H (jm_R H r0 7) 0)] H (fun v G => jm_w S 6 149 164 [.ref r0, .int x1] (v.toList ++ []) G Q) := (js1 at149_154 rfl rfl rfl).trans ((jsgR (H := H) at149_155 rv149g_53 rfl h0 h1 rfl).trans ((jsgR (H := H) at149_158 rv149g_127 rfl h2 h3 rfl).trans (jscall (H := H) (as := [.ref (jm_R H (jm_R H r0 7) 0)]) (q := []) at149_161 rfl rv149i_167 (jscutV rfl rfl rfl (Nat.le_of_ble_eq_true rfl) rfl h4) rfl (Nat.le_of_ble_eq_true rfl) rfl rfl)))
theorem at149_164 : jm_at 149 164 = some (.ifCond .ne 9) := by decide +kernel
theorem u149_164 {S : Option (Nat × (Nat → Int32))} {H : jm_H} {Q : Option Value → jm_H → Prop} {r0 : Nat} {x1 p0 : Int32} : jm_w S 6 149 164 [.ref r0, .int x1] [.int p0] H Q = if ¬ p0 = 0 then jm_w S 6 149 173 [.ref r0, .int x1] [] H Q else jm_w S 6 149 167 [.ref r0, .int x1] [] H Q := jsif (P := ¬ p0 = 0) at149_164 rfl rfl
theorem at149_167 : jm_at 149 167 = some (.sipush (-1000)) := by decide +kernel
theorem at149_170 : jm_at 149 170 = some (.goto 13) := by decide +kernel
theorem u149_167 {S : Option (Nat × (Nat → Int32))} {H : jm_H} {Q : Option Value → jm_H → Prop} {r0 : Nat} {x1 : Int32} : jm_w S 6 149 167 [.ref r0, .int x1] [] H Q = jm_w S 6 149 183 [.ref r0, .int x1] [.int (-1000 : Int32)] H Q := (jscs at149_167 rfl rfl).trans (js2 at149_170 rfl rfl)
theorem at149_173 : jm_at 149 173 = some (.aload_n 0) := by decide +kernel
theorem at149_174 : jm_at 149 174 = some (.getfield 53) := by decide +kernel
theorem at149_177 : jm_at 149 177 = some (.getfield 127) := by decide +kernel
theorem at149_180 : jm_at 149 180 = some (.invokevirtual 339) := by decide +kernel
theorem rv149i_339 : jm_rv 149 (.invokevirtual 339) = (2, 153, 0, 0) := by decide +kernel
theorem u149_173 {S : Option (Nat × (Nat → Int32))} {H : jm_H} {Q : Option Value → jm_H → Prop} {r0 : Nat} {x1 : Int32} (h0 : jm_tg H r0 = 12) (h1 : ¬ jm_R H r0 7 = 0) (h2 : jm_tg H (jm_R H r0 7) = 7) (h3 : ¬ jm_R H (jm_R H r0 7) 0 = 0) (h4 : jm_tg H (jm_R H (jm_R H r0 7) 0) = 8) : jm_w S 6 149 173 [.ref r0, .int x1] [] H Q = jm_c S 153 [.ref (jm_R H (jm_R H r0 7) 0)] H (fun v G => jm_w S 6 149 183 [.ref r0, .int x1] (v.toList ++ []) G Q) := (js1 at149_173 rfl rfl rfl).trans ((jsgR (H := H) at149_174 rv149g_53 rfl h0 h1 rfl).trans ((jsgR (H := H) at149_177 rv149g_127 rfl h2 h3 rfl).trans (jscall (H := H) (as := [.ref (jm_R H (jm_R H r0 7) 0)]) (q := []) at149_180 rfl rv149i_339 (jscutV rfl rfl rfl (Nat.le_of_ble_eq_true rfl) rfl h4) rfl (Nat.le_of_ble_eq_true rfl) rfl rfl)))
theorem at149_183 : jm_at 149 183 = some (.ireturn) := by decide +kernel
theorem u149_183 {S : Option (Nat × (Nat → Int32))} {H : jm_H} {Q : Option Value → jm_H → Prop} {r0 : Nat} {x1 p0 : Int32} : jm_w S 6 149 183 [.ref r0, .int x1] [.int p0] H Q = Q (some (.int p0)) H := jsret_i at149_183 rfl
theorem at149_184 : jm_at 149 184 = some (.aload_n 0) := by decide +kernel
theorem at149_185 : jm_at 149 185 = some (.getfield 53) := by decide +kernel
theorem at149_188 : jm_at 149 188 = some (.getfield 127) := by decide +kernel
theorem at149_191 : jm_at 149 191 = some (.aload_n 0) := by decide +kernel
theorem at149_192 : jm_at 149 192 = some (.getfield 43) := by decide +kernel
theorem rv149g_43 : jm_rv 149 (.getfield 43) = (0, 11, 5, 0) := by decide +kernel
theorem at149_195 : jm_at 149 195 = some (.invokevirtual 322) := by decide +kernel
theorem rv149i_322 : jm_rv 149 (.invokevirtual 322) = (2, 83, 0, 0) := by decide +kernel
theorem u149_184 {S : Option (Nat × (Nat → Int32))} {H : jm_H} {Q : Option Value → jm_H → Prop} {r0 : Nat} {x1 : Int32} (h0 : jm_tg H r0 = 12) (h1 : ¬ jm_R H r0 7 = 0) (h2 : jm_tg H (jm_R H r0 7) = 7) (h3 : ¬ jm_R H (jm_R H r0 7) 0 = 0) (h4 : ¬ jm_R H r0 5 = 0) (h5 : jm_tg H (jm_R H (jm_R H r0 7) 0) = 8) : jm_w S 6 149 184 [.ref r0, .int x1] [] H Q = jm_c S 83 [.ref (jm_R H (jm_R H r0 7) 0), .ref (jm_R H r0 5)] H (fun v G => jm_w S 6 149 198 [.ref r0, .int x1] (v.toList ++ []) G Q) := (js1 at149_184 rfl rfl rfl).trans ((jsgR (H := H) at149_185 rv149g_53 rfl h0 h1 rfl).trans ((jsgR (H := H) at149_188 rv149g_127 rfl h2 h3 rfl).trans ((js1 at149_191 rfl rfl rfl).trans ((jsgR (H := H) at149_192 rv149g_43 rfl h0 h4 rfl).trans (jscall (H := H) (as := [.ref (jm_R H (jm_R H r0 7) 0), .ref (jm_R H r0 5)]) (q := []) at149_195 rfl rv149i_322 (jscutV rfl rfl rfl (Nat.le_of_ble_eq_true rfl) rfl h5) rfl (Nat.le_of_ble_eq_true rfl) rfl rfl)))))
theorem at149_198 : jm_at 149 198 = some (.aload_n 0) := by decide +kernel
theorem at149_199 : jm_at 149 199 = some (.getfield 43) := by decide +kernel
theorem at149_202 : jm_at 149 202 = some (.invokevirtual 209) := by decide +kernel
theorem rv149i_209 : jm_rv 149 (.invokevirtual 209) = (2, 109, 0, 0) := by decide +kernel
theorem u149_198 {S : Option (Nat × (Nat → Int32))} {H : jm_H} {Q : Option Value → jm_H → Prop} {r0 : Nat} {x1 : Int32} (h0 : jm_tg H r0 = 12) (h1 : ¬ jm_R H r0 5 = 0) (h2 : jm_tg H (jm_R H r0 5) = 3) : jm_w S 6 149 198 [.ref r0, .int x1] [] H Q = jm_c S 109 [.ref (jm_R H r0 5)] H (fun v G => jm_w S 6 149 205 [.ref r0, .int x1] (v.toList ++ []) G Q) := (js1 at149_198 rfl rfl rfl).trans ((jsgR (H := H) at149_199 rv149g_43 rfl h0 h1 rfl).trans (jscall (H := H) (as := [.ref (jm_R H r0 5)]) (q := []) at149_202 rfl rv149i_209 (jscutV rfl rfl rfl (Nat.le_of_ble_eq_true rfl) rfl h2) rfl (Nat.le_of_ble_eq_true rfl) rfl rfl))
theorem at149_205 : jm_at 149 205 = some (.ireturn) := by decide +kernel
theorem u149_205 {S : Option (Nat × (Nat → Int32))} {H : jm_H} {Q : Option Value → jm_H → Prop} {r0 : Nat} {x1 p0 : Int32} : jm_w S 6 149 205 [.ref r0, .int x1] [.int p0] H Q = Q (some (.int p0)) H := jsret_i at149_205 rfl
theorem at149_206 : jm_at 149 206 = some (.iconst (-1)) := by decide +kernel
theorem at149_207 : jm_at 149 207 = some (.ireturn) := by decide +kernel
theorem u149_206 {S : Option (Nat × (Nat → Int32))} {H : jm_H} {Q : Option Value → jm_H → Prop} {r0 : Nat} {x1 : Int32} : jm_w S 6 149 206 [.ref r0, .int x1] [] H Q = Q (some (.int (-1 : Int32))) H := (jsci at149_206 rfl rfl).trans (jsret_i at149_207 rfl)
theorem en149 {S : Option (Nat × (Nat → Int32))} {H : jm_H} {Q : Option Value → jm_H → Prop} {r0 : Nat} {x1 : Int32} : jm_c S 149 [.ref r0, .int x1] H Q = jm_w S 6 149 0 [.ref r0, .int x1] [] H Q := rfl
theorem at150_0 : jm_at 150 0 = some (.iconst 0) := by decide +kernel
theorem at150_1 : jm_at 150 1 = some (.istore_n 1) := by decide +kernel
theorem at150_2 : jm_at 150 2 = some (.iconst 0) := by decide +kernel
theorem at150_3 : jm_at 150 3 = some (.istore_n 2) := by decide +kernel
theorem u150_0 {S : Option (Nat × (Nat → Int32))} {H : jm_H} {Q : Option Value → jm_H → Prop} {r0 : Nat} : jm_w S 3 150 0 [.ref r0, .null, .null] [] H Q = jm_w S 3 150 4 [.ref r0, .int (0 : Int32), .int (0 : Int32)] [] H Q := (jsci at150_0 rfl rfl).trans ((js1 at150_1 rfl rfl rfl).trans ((jsci at150_2 rfl rfl).trans (js1 at150_3 rfl rfl rfl)))
theorem at150_4 : jm_at 150 4 = some (.iload_n 2) := by decide +kernel
theorem at150_5 : jm_at 150 5 = some (.aload_n 0) := by decide +kernel
theorem at150_6 : jm_at 150 6 = some (.getfield 87) := by decide +kernel
theorem rv150g_87 : jm_rv 150 (.getfield 87) = (0, 11, 13, 0) := by decide +kernel
theorem at150_9 : jm_at 150 9 = some (.getfield 325) := by decide +kernel
theorem rv150g_325 : jm_rv 150 (.getfield 325) = (0, 9, 3, 0) := by decide +kernel
theorem at150_12 : jm_at 150 12 = some (.if_icmp .ge 43) := by decide +kernel
theorem u150_4 {S : Option (Nat × (Nat → Int32))} {H : jm_H} {Q : Option Value → jm_H → Prop} {r0 : Nat} {x1 x2 : Int32} (h0 : jm_tg H r0 = 12) (h1 : ¬ jm_R H r0 13 = 0) (h2 : jm_tg H (jm_R H r0 13) = 10) : jm_w S 3 150 4 [.ref r0, .int x1, .int x2] [] H Q = if (jm_I H (jm_R H r0 13) 3) ≤ x2 then jm_w S 3 150 55 [.ref r0, .int x1, .int x2] [] H Q else jm_w S 3 150 15 [.ref r0, .int x1, .int x2] [] H Q := (js1 at150_4 rfl rfl rfl).trans ((js1 at150_5 rfl rfl rfl).trans ((jsgR (H := H) at150_6 rv150g_87 rfl h0 h1 rfl).trans ((jsgI (H := H) at150_9 rv150g_325 (Or.inl rfl) h2 rfl).trans (jsif (P := (jm_I H (jm_R H r0 13) 3) ≤ x2) at150_12 rfl rfl))))
theorem at150_15 : jm_at 150 15 = some (.iload_n 2) := by decide +kernel
theorem at150_16 : jm_at 150 16 = some (.aload_n 0) := by decide +kernel
theorem at150_17 : jm_at 150 17 = some (.getfield 68) := by decide +kernel
theorem rv150g_68 : jm_rv 150 (.getfield 68) = (0, 11, 10, 0) := by decide +kernel
theorem at150_20 : jm_at 150 20 = some (.arraylength) := by decide +kernel
theorem at150_21 : jm_at 150 21 = some (.if_icmp .ge 34) := by decide +kernel
theorem u150_15 {S : Option (Nat × (Nat → Int32))} {H : jm_H} {Q : Option Value → jm_H → Prop} {r0 : Nat} {x1 x2 : Int32} (h0 : jm_tg H r0 = 12) (h1 : ¬ jm_R H r0 10 = 0) (h2 : ¬ (jm_R H r0 10) = 1) (h3 : 100 ≤ jm_tg H (jm_R H r0 10)) : jm_w S 3 150 15 [.ref r0, .int x1, .int x2] [] H Q = if (Int32.ofNat (jm_ln H (jm_R H r0 10))) ≤ x2 then jm_w S 3 150 55 [.ref r0, .int x1, .int x2] [] H Q else jm_w S 3 150 24 [.ref r0, .int x1, .int x2] [] H Q := (js1 at150_15 rfl rfl rfl).trans ((js1 at150_16 rfl rfl rfl).trans ((jsgR (H := H) at150_17 rv150g_68 rfl h0 h1 rfl).trans ((jsaln (H := H) at150_20 h2 h3 rfl).trans (jsif (P := (Int32.ofNat (jm_ln H (jm_R H r0 10))) ≤ x2) at150_21 rfl rfl))))
theorem at150_24 : jm_at 150 24 = some (.aload_n 0) := by decide +kernel
theorem at150_25 : jm_at 150 25 = some (.getfield 53) := by decide +kernel
theorem rv150g_53 : jm_rv 150 (.getfield 53) = (0, 11, 7, 0) := by decide +kernel
theorem at150_28 : jm_at 150 28 = some (.getfield 114) := by decide +kernel
theorem rv150g_114 : jm_rv 150 (.getfield 114) = (0, 6, 1, 0) := by decide +kernel
theorem at150_31 : jm_at 150 31 = some (.aload_n 0) := by decide +kernel
theorem at150_32 : jm_at 150 32 = some (.getfield 68) := by decide +kernel
theorem at150_35 : jm_at 150 35 = some (.iload_n 2) := by decide +kernel
theorem at150_36 : jm_at 150 36 = some (.iaload) := by decide +kernel
theorem at150_37 : jm_at 150 37 = some (.invokestatic 197) := by decide +kernel
theorem rv150i_197 : jm_rv 150 (.invokestatic 197) = (1, 69, 0, 0) := by decide +kernel
theorem u150_24 {S : Option (Nat × (Nat → Int32))} {H : jm_H} {Q : Option Value → jm_H → Prop} {r0 : Nat} {x1 x2 : Int32} (h0 : jm_tg H r0 = 12) (h1 : ¬ jm_R H r0 7 = 0) (h2 : jm_tg H (jm_R H r0 7) = 7) (h3 : ¬ jm_R H r0 10 = 0) (h4 : ¬ (x2 < 0 ∨ jm_ln H (jm_R H r0 10) ≤ Int32.toNatClampNeg x2)) (h5 : ¬ (jm_R H r0 10) = 1) (h6 : jm_tg H (jm_R H r0 10) = 100) : jm_w S 3 150 24 [.ref r0, .int x1, .int x2] [] H Q = jm_c S 69 [.int (jm_I H (jm_R H r0 7) 1), .int (jm_I H (jm_R H r0 10) (Int32.toNatClampNeg x2))] H (fun v G => jm_w S 3 150 40 [.ref r0, .int x1, .int x2] (v.toList ++ []) G Q) := (js1 at150_24 rfl rfl rfl).trans ((jsgR (H := H) at150_25 rv150g_53 rfl h0 h1 rfl).trans ((jsgI (H := H) at150_28 rv150g_114 (Or.inl rfl) h2 rfl).trans ((js1 at150_31 rfl rfl rfl).trans ((jsgR (H := H) at150_32 rv150g_68 rfl h0 h3 rfl).trans ((js1 at150_35 rfl rfl rfl).trans ((jsial (H := H) at150_36 h5 h6 h4 rfl).trans (jscall (H := H) (as := [.int (jm_I H (jm_R H r0 7) 1), .int (jm_I H (jm_R H r0 10) (Int32.toNatClampNeg x2))]) (q := []) at150_37 rfl rv150i_197 (jscut rfl rfl rfl (Nat.le_of_ble_eq_true rfl)) rfl (Nat.le_of_ble_eq_true rfl) rfl rfl)))))))
theorem at150_40 : jm_at 150 40 = some (.ifCond .eq 9) := by decide +kernel
theorem u150_40 {S : Option (Nat × (Nat → Int32))} {H : jm_H} {Q : Option Value → jm_H → Prop} {r0 : Nat} {x1 x2 p0 : Int32} : jm_w S 3 150 40 [.ref r0, .int x1, .int x2] [.int p0] H Q = if p0 = 0 then jm_w S 3 150 49 [.ref r0, .int x1, .int x2] [] H Q else jm_w S 3 150 43 [.ref r0, .int x1, .int x2] [] H Q := jsif (P := p0 = 0) at150_40 rfl rfl
theorem at150_43 : jm_at 150 43 = some (.iload_n 1) := by decide +kernel
theorem at150_44 : jm_at 150 44 = some (.iconst 1) := by decide +kernel
theorem at150_45 : jm_at 150 45 = some (.iload_n 2) := by decide +kernel
theorem at150_46 : jm_at 150 46 = some (.ishl) := by decide +kernel
theorem at150_47 : jm_at 150 47 = some (.ior) := by decide +kernel
theorem at150_48 : jm_at 150 48 = some (.istore_n 1) := by decide +kernel
theorem u150_43 {S : Option (Nat × (Nat → Int32))} {H : jm_H} {Q : Option Value → jm_H → Prop} {r0 : Nat} {x1 x2 : Int32} : jm_w S 3 150 43 [.ref r0, .int x1, .int x2] [] H Q = jm_w S 3 150 49 [.ref r0, .int (x1 ||| ((1 : Int32) <<< (x2 &&& 31))), .int x2] [] H Q := (js1 at150_43 rfl rfl rfl).trans ((jsci at150_44 rfl rfl).trans ((js1 at150_45 rfl rfl rfl).trans ((js0 at150_46 rfl rfl rfl).trans ((js0 at150_47 rfl rfl rfl).trans (js1 at150_48 rfl rfl rfl)))))
theorem at150_49 : jm_at 150 49 = some (.iinc 2 1) := by decide +kernel
theorem at150_52 : jm_at 150 52 = some (.goto (-48)) := by decide +kernel
theorem u150_49 {S : Option (Nat × (Nat → Int32))} {H : jm_H} {Q : Option Value → jm_H → Prop} {r0 : Nat} {x1 x2 : Int32} : jm_w S 3 150 49 [.ref r0, .int x1, .int x2] [] H Q = jm_w S 3 150 4 [.ref r0, .int x1, .int (x2 + 1)] [] H Q := (jsinc at150_49 rfl rfl rfl).trans (js2 at150_52 rfl rfl)
theorem at150_55 : jm_at 150 55 = some (.iload_n 1) := by decide +kernel
theorem at150_56 : jm_at 150 56 = some (.ireturn) := by decide +kernel
theorem u150_55 {S : Option (Nat × (Nat → Int32))} {H : jm_H} {Q : Option Value → jm_H → Prop} {r0 : Nat} {x1 x2 : Int32} : jm_w S 3 150 55 [.ref r0, .int x1, .int x2] [] H Q = Q (some (.int x1)) H := (js1 at150_55 rfl rfl rfl).trans (jsret_i at150_56 rfl)
theorem en150 {S : Option (Nat × (Nat → Int32))} {H : jm_H} {Q : Option Value → jm_H → Prop} {r0 : Nat} : jm_c S 150 [.ref r0] H Q = jm_w S 3 150 0 [.ref r0, .null, .null] [] H Q := rfl
theorem at151_0 : jm_at 151 0 = some (.iconst 0) := by decide +kernel
theorem at151_1 : jm_at 151 1 = some (.istore_n 1) := by decide +kernel
theorem at151_2 : jm_at 151 2 = some (.iconst 0) := by decide +kernel
theorem at151_3 : jm_at 151 3 = some (.istore_n 2) := by decide +kernel
theorem u151_0 {S : Option (Nat × (Nat → Int32))} {H : jm_H} {Q : Option Value → jm_H → Prop} {r0 : Nat} : jm_w S 1 151 0 [.ref r0, .null, .null, .null, .null] [] H Q = jm_w S 1 151 4 [.ref r0, .int (0 : Int32), .int (0 : Int32), .null, .null] [] H Q := (jsci at151_0 rfl rfl).trans ((js1 at151_1 rfl rfl rfl).trans ((jsci at151_2 rfl rfl).trans (js1 at151_3 rfl rfl rfl)))
theorem at151_4 : jm_at 151 4 = some (.iload_n 2) := by decide +kernel
theorem at151_5 : jm_at 151 5 = some (.aload_n 0) := by decide +kernel
theorem at151_6 : jm_at 151 6 = some (.getfield 87) := by decide +kernel
theorem rv151g_87 : jm_rv 151 (.getfield 87) = (0, 11, 13, 0) := by decide +kernel
theorem at151_9 : jm_at 151 9 = some (.getfield 325) := by decide +kernel
theorem rv151g_325 : jm_rv 151 (.getfield 325) = (0, 9, 3, 0) := by decide +kernel
theorem at151_12 : jm_at 151 12 = some (.if_icmp .ge 73) := by decide +kernel
theorem u151_4 {S : Option (Nat × (Nat → Int32))} {H : jm_H} {Q : Option Value → jm_H → Prop} {r0 : Nat} {x1 x2 : Int32} {w3 w4 : Value} (h0 : jm_tg H r0 = 12) (h1 : ¬ jm_R H r0 13 = 0) (h2 : jm_tg H (jm_R H r0 13) = 10) : jm_w S 1 151 4 [.ref r0, .int x1, .int x2, w3, w4] [] H Q = if (jm_I H (jm_R H r0 13) 3) ≤ x2 then jm_w S 1 151 85 [.ref r0, .int x1, .int x2, w3, w4] [] H Q else jm_w S 1 151 15 [.ref r0, .int x1, .int x2, w3, w4] [] H Q := (js1 at151_4 rfl rfl rfl).trans ((js1 at151_5 rfl rfl rfl).trans ((jsgR (H := H) at151_6 rv151g_87 rfl h0 h1 rfl).trans ((jsgI (H := H) at151_9 rv151g_325 (Or.inl rfl) h2 rfl).trans (jsif (P := (jm_I H (jm_R H r0 13) 3) ≤ x2) at151_12 rfl rfl))))
theorem at151_15 : jm_at 151 15 = some (.iload_n 2) := by decide +kernel
theorem at151_16 : jm_at 151 16 = some (.aload_n 0) := by decide +kernel
theorem at151_17 : jm_at 151 17 = some (.getfield 68) := by decide +kernel
theorem rv151g_68 : jm_rv 151 (.getfield 68) = (0, 11, 10, 0) := by decide +kernel
theorem at151_20 : jm_at 151 20 = some (.arraylength) := by decide +kernel
theorem at151_21 : jm_at 151 21 = some (.if_icmp .ge 64) := by decide +kernel
theorem u151_15 {S : Option (Nat × (Nat → Int32))} {H : jm_H} {Q : Option Value → jm_H → Prop} {r0 : Nat} {x1 x2 : Int32} {w3 w4 : Value} (h0 : jm_tg H r0 = 12) (h1 : ¬ jm_R H r0 10 = 0) (h2 : ¬ (jm_R H r0 10) = 1) (h3 : 100 ≤ jm_tg H (jm_R H r0 10)) : jm_w S 1 151 15 [.ref r0, .int x1, .int x2, w3, w4] [] H Q = if (Int32.ofNat (jm_ln H (jm_R H r0 10))) ≤ x2 then jm_w S 1 151 85 [.ref r0, .int x1, .int x2, w3, w4] [] H Q else jm_w S 1 151 24 [.ref r0, .int x1, .int x2, w3, w4] [] H Q := (js1 at151_15 rfl rfl rfl).trans ((js1 at151_16 rfl rfl rfl).trans ((jsgR (H := H) at151_17 rv151g_68 rfl h0 h1 rfl).trans ((jsaln (H := H) at151_20 h2 h3 rfl).trans (jsif (P := (Int32.ofNat (jm_ln H (jm_R H r0 10))) ≤ x2) at151_21 rfl rfl))))
theorem at151_24 : jm_at 151 24 = some (.iconst 1) := by decide +kernel
theorem at151_25 : jm_at 151 25 = some (.istore_n 3) := by decide +kernel
theorem at151_26 : jm_at 151 26 = some (.iconst 0) := by decide +kernel
theorem at151_27 : jm_at 151 27 = some (.istore 4) := by decide +kernel
theorem u151_24 {S : Option (Nat × (Nat → Int32))} {H : jm_H} {Q : Option Value → jm_H → Prop} {r0 : Nat} {x1 x2 : Int32} {w3 w4 : Value} : jm_w S 1 151 24 [.ref r0, .int x1, .int x2, w3, w4] [] H Q = jm_w S 1 151 29 [.ref r0, .int x1, .int x2, .int (1 : Int32), .int (0 : Int32)] [] H Q := (jsci at151_24 rfl rfl).trans ((js1 at151_25 rfl rfl rfl).trans ((jsci at151_26 rfl rfl).trans (js1 at151_27 rfl rfl rfl)))
theorem at151_29 : jm_at 151 29 = some (.iload 4) := by decide +kernel
theorem at151_31 : jm_at 151 31 = some (.iload_n 2) := by decide +kernel
theorem at151_32 : jm_at 151 32 = some (.if_icmp .ge 35) := by decide +kernel
theorem u151_29 {S : Option (Nat × (Nat → Int32))} {H : jm_H} {Q : Option Value → jm_H → Prop} {r0 : Nat} {x1 x2 x3 x4 : Int32} : jm_w S 1 151 29 [.ref r0, .int x1, .int x2, .int x3, .int x4] [] H Q = if x2 ≤ x4 then jm_w S 1 151 67 [.ref r0, .int x1, .int x2, .int x3, .int x4] [] H Q else jm_w S 1 151 35 [.ref r0, .int x1, .int x2, .int x3, .int x4] [] H Q := (js1 at151_29 rfl rfl rfl).trans ((js1 at151_31 rfl rfl rfl).trans (jsif (P := x2 ≤ x4) at151_32 rfl rfl))
theorem at151_35 : jm_at 151 35 = some (.iload_n 3) := by decide +kernel
theorem at151_36 : jm_at 151 36 = some (.ifCond .eq 23) := by decide +kernel
theorem u151_35 {S : Option (Nat × (Nat → Int32))} {H : jm_H} {Q : Option Value → jm_H → Prop} {r0 : Nat} {x1 x2 x3 x4 : Int32} : jm_w S 1 151 35 [.ref r0, .int x1, .int x2, .int x3, .int x4] [] H Q = if x3 = 0 then jm_w S 1 151 59 [.ref r0, .int x1, .int x2, .int x3, .int x4] [] H Q else jm_w S 1 151 39 [.ref r0, .int x1, .int x2, .int x3, .int x4] [] H Q := (js1 at151_35 rfl rfl rfl).trans (jsif (P := x3 = 0) at151_36 rfl rfl)
theorem at151_39 : jm_at 151 39 = some (.aload_n 0) := by decide +kernel
theorem at151_40 : jm_at 151 40 = some (.getfield 68) := by decide +kernel
theorem at151_43 : jm_at 151 43 = some (.iload 4) := by decide +kernel
theorem at151_45 : jm_at 151 45 = some (.iaload) := by decide +kernel
theorem at151_46 : jm_at 151 46 = some (.aload_n 0) := by decide +kernel
theorem at151_47 : jm_at 151 47 = some (.getfield 68) := by decide +kernel
theorem at151_50 : jm_at 151 50 = some (.iload_n 2) := by decide +kernel
theorem at151_51 : jm_at 151 51 = some (.iaload) := by decide +kernel
theorem at151_52 : jm_at 151 52 = some (.if_icmp .eq 7) := by decide +kernel
theorem u151_39 {S : Option (Nat × (Nat → Int32))} {H : jm_H} {Q : Option Value → jm_H → Prop} {r0 : Nat} {x1 x2 x3 x4 : Int32} (h0 : jm_tg H r0 = 12) (h1 : ¬ jm_R H r0 10 = 0) (h2 : ¬ (x4 < 0 ∨ jm_ln H (jm_R H r0 10) ≤ Int32.toNatClampNeg x4)) (h3 : ¬ (jm_R H r0 10) = 1) (h4 : jm_tg H (jm_R H r0 10) = 100) (h5 : ¬ (x2 < 0 ∨ jm_ln H (jm_R H r0 10) ≤ Int32.toNatClampNeg x2)) : jm_w S 1 151 39 [.ref r0, .int x1, .int x2, .int x3, .int x4] [] H Q = if (jm_I H (jm_R H r0 10) (Int32.toNatClampNeg x4)) = (jm_I H (jm_R H r0 10) (Int32.toNatClampNeg x2)) then jm_w S 1 151 59 [.ref r0, .int x1, .int x2, .int x3, .int x4] [] H Q else jm_w S 1 151 55 [.ref r0, .int x1, .int x2, .int x3, .int x4] [] H Q := (js1 at151_39 rfl rfl rfl).trans ((jsgR (H := H) at151_40 rv151g_68 rfl h0 h1 rfl).trans ((js1 at151_43 rfl rfl rfl).trans ((jsial (H := H) at151_45 h3 h4 h2 rfl).trans ((js1 at151_46 rfl rfl rfl).trans ((jsgR (H := H) at151_47 rv151g_68 rfl h0 h1 rfl).trans ((js1 at151_50 rfl rfl rfl).trans ((jsial (H := H) at151_51 h3 h4 h5 rfl).trans (jsif (P := (jm_I H (jm_R H r0 10) (Int32.toNatClampNeg x4)) = (jm_I H (jm_R H r0 10) (Int32.toNatClampNeg x2))) at151_52 rfl rfl))))))))
theorem at151_55 : jm_at 151 55 = some (.iconst 1) := by decide +kernel
theorem at151_56 : jm_at 151 56 = some (.goto 4) := by decide +kernel
theorem u151_55 {S : Option (Nat × (Nat → Int32))} {H : jm_H} {Q : Option Value → jm_H → Prop} {r0 : Nat} {x1 x2 x3 x4 : Int32} : jm_w S 1 151 55 [.ref r0, .int x1, .int x2, .int x3, .int x4] [] H Q = jm_w S 1 151 60 [.ref r0, .int x1, .int x2, .int x3, .int x4] [.int (1 : Int32)] H Q := (jsci at151_55 rfl rfl).trans (js2 at151_56 rfl rfl)
theorem at151_59 : jm_at 151 59 = some (.iconst 0) := by decide +kernel
theorem u151_59 {S : Option (Nat × (Nat → Int32))} {H : jm_H} {Q : Option Value → jm_H → Prop} {r0 : Nat} {x1 x2 x3 x4 : Int32} : jm_w S 1 151 59 [.ref r0, .int x1, .int x2, .int x3, .int x4] [] H Q = jm_w S 1 151 60 [.ref r0, .int x1, .int x2, .int x3, .int x4] [.int (0 : Int32)] H Q := jsci at151_59 rfl rfl
theorem at151_60 : jm_at 151 60 = some (.istore_n 3) := by decide +kernel
theorem at151_61 : jm_at 151 61 = some (.iinc 4 1) := by decide +kernel
theorem at151_64 : jm_at 151 64 = some (.goto (-35)) := by decide +kernel
theorem u151_60 {S : Option (Nat × (Nat → Int32))} {H : jm_H} {Q : Option Value → jm_H → Prop} {r0 : Nat} {x1 x2 x3 x4 p0 : Int32} : jm_w S 1 151 60 [.ref r0, .int x1, .int x2, .int x3, .int x4] [.int p0] H Q = jm_w S 1 151 29 [.ref r0, .int x1, .int x2, .int p0, .int (x4 + 1)] [] H Q := (js1 at151_60 rfl rfl rfl).trans ((jsinc at151_61 rfl rfl rfl).trans (js2 at151_64 rfl rfl))
theorem at151_67 : jm_at 151 67 = some (.iload_n 1) := by decide +kernel
theorem at151_68 : jm_at 151 68 = some (.iload_n 3) := by decide +kernel
theorem at151_69 : jm_at 151 69 = some (.ifCond .eq 7) := by decide +kernel
theorem u151_67 {S : Option (Nat × (Nat → Int32))} {H : jm_H} {Q : Option Value → jm_H → Prop} {r0 : Nat} {x1 x2 x3 x4 : Int32} : jm_w S 1 151 67 [.ref r0, .int x1, .int x2, .int x3, .int x4] [] H Q = if x3 = 0 then jm_w S 1 151 76 [.ref r0, .int x1, .int x2, .int x3, .int x4] [.int x1] H Q else jm_w S 1 151 72 [.ref r0, .int x1, .int x2, .int x3, .int x4] [.int x1] H Q := (js1 at151_67 rfl rfl rfl).trans ((js1 at151_68 rfl rfl rfl).trans (jsif (P := x3 = 0) at151_69 rfl rfl))
theorem at151_72 : jm_at 151 72 = some (.iconst 1) := by decide +kernel
theorem at151_73 : jm_at 151 73 = some (.goto 4) := by decide +kernel
theorem u151_72 {S : Option (Nat × (Nat → Int32))} {H : jm_H} {Q : Option Value → jm_H → Prop} {r0 : Nat} {x1 x2 x3 x4 p0 : Int32} : jm_w S 1 151 72 [.ref r0, .int x1, .int x2, .int x3, .int x4] [.int p0] H Q = jm_w S 1 151 77 [.ref r0, .int x1, .int x2, .int x3, .int x4] [.int (1 : Int32), .int p0] H Q := (jsci at151_72 rfl rfl).trans (js2 at151_73 rfl rfl)
theorem at151_76 : jm_at 151 76 = some (.iconst 0) := by decide +kernel
theorem u151_76 {S : Option (Nat × (Nat → Int32))} {H : jm_H} {Q : Option Value → jm_H → Prop} {r0 : Nat} {x1 x2 x3 x4 p0 : Int32} : jm_w S 1 151 76 [.ref r0, .int x1, .int x2, .int x3, .int x4] [.int p0] H Q = jm_w S 1 151 77 [.ref r0, .int x1, .int x2, .int x3, .int x4] [.int (0 : Int32), .int p0] H Q := jsci at151_76 rfl rfl
theorem at151_77 : jm_at 151 77 = some (.iadd) := by decide +kernel
theorem at151_78 : jm_at 151 78 = some (.istore_n 1) := by decide +kernel
theorem at151_79 : jm_at 151 79 = some (.iinc 2 1) := by decide +kernel
theorem at151_82 : jm_at 151 82 = some (.goto (-78)) := by decide +kernel
theorem u151_77 {S : Option (Nat × (Nat → Int32))} {H : jm_H} {Q : Option Value → jm_H → Prop} {r0 : Nat} {x1 x2 x3 x4 p0 p1 : Int32} : jm_w S 1 151 77 [.ref r0, .int x1, .int x2, .int x3, .int x4] [.int p1, .int p0] H Q = jm_w S 1 151 4 [.ref r0, .int (p0 + p1), .int (x2 + 1), .int x3, .int x4] [] H Q := (js0 at151_77 rfl rfl rfl).trans ((js1 at151_78 rfl rfl rfl).trans ((jsinc at151_79 rfl rfl rfl).trans (js2 at151_82 rfl rfl)))
theorem at151_85 : jm_at 151 85 = some (.iload_n 1) := by decide +kernel
theorem at151_86 : jm_at 151 86 = some (.ireturn) := by decide +kernel
theorem u151_85 {S : Option (Nat × (Nat → Int32))} {H : jm_H} {Q : Option Value → jm_H → Prop} {r0 : Nat} {x1 x2 : Int32} {w3 w4 : Value} : jm_w S 1 151 85 [.ref r0, .int x1, .int x2, w3, w4] [] H Q = Q (some (.int x1)) H := (js1 at151_85 rfl rfl rfl).trans (jsret_i at151_86 rfl)
theorem en151 {S : Option (Nat × (Nat → Int32))} {H : jm_H} {Q : Option Value → jm_H → Prop} {r0 : Nat} : jm_c S 151 [.ref r0] H Q = jm_w S 1 151 0 [.ref r0, .null, .null, .null, .null] [] H Q := rfl
theorem at152_0 : jm_at 152 0 = some (.iconst 0) := by decide +kernel
theorem at152_1 : jm_at 152 1 = some (.istore_n 1) := by decide +kernel
theorem at152_2 : jm_at 152 2 = some (.iconst 0) := by decide +kernel
theorem at152_3 : jm_at 152 3 = some (.istore_n 2) := by decide +kernel
theorem u152_0 {S : Option (Nat × (Nat → Int32))} {H : jm_H} {Q : Option Value → jm_H → Prop} {r0 : Nat} : jm_w S 1 152 0 [.ref r0, .null, .null] [] H Q = jm_w S 1 152 4 [.ref r0, .int (0 : Int32), .int (0 : Int32)] [] H Q := (jsci at152_0 rfl rfl).trans ((js1 at152_1 rfl rfl rfl).trans ((jsci at152_2 rfl rfl).trans (js1 at152_3 rfl rfl rfl)))
theorem at152_4 : jm_at 152 4 = some (.iload_n 2) := by decide +kernel
theorem at152_5 : jm_at 152 5 = some (.aload_n 0) := by decide +kernel
theorem at152_6 : jm_at 152 6 = some (.getfield 63) := by decide +kernel
theorem rv152g_63 : jm_rv 152 (.getfield 63) = (0, 11, 9, 0) := by decide +kernel
theorem at152_9 : jm_at 152 9 = some (.arraylength) := by decide +kernel
theorem at152_10 : jm_at 152 10 = some (.if_icmp .ge 29) := by decide +kernel
theorem u152_4 {S : Option (Nat × (Nat → Int32))} {H : jm_H} {Q : Option Value → jm_H → Prop} {r0 : Nat} {x1 x2 : Int32} (h0 : jm_tg H r0 = 12) (h1 : ¬ jm_R H r0 9 = 0) (h2 : ¬ (jm_R H r0 9) = 1) (h3 : 100 ≤ jm_tg H (jm_R H r0 9)) : jm_w S 1 152 4 [.ref r0, .int x1, .int x2] [] H Q = if (Int32.ofNat (jm_ln H (jm_R H r0 9))) ≤ x2 then jm_w S 1 152 39 [.ref r0, .int x1, .int x2] [] H Q else jm_w S 1 152 13 [.ref r0, .int x1, .int x2] [] H Q := (js1 at152_4 rfl rfl rfl).trans ((js1 at152_5 rfl rfl rfl).trans ((jsgR (H := H) at152_6 rv152g_63 rfl h0 h1 rfl).trans ((jsaln (H := H) at152_9 h2 h3 rfl).trans (jsif (P := (Int32.ofNat (jm_ln H (jm_R H r0 9))) ≤ x2) at152_10 rfl rfl))))
theorem at152_13 : jm_at 152 13 = some (.iload_n 1) := by decide +kernel
theorem at152_14 : jm_at 152 14 = some (.aload_n 0) := by decide +kernel
theorem at152_15 : jm_at 152 15 = some (.getfield 63) := by decide +kernel
theorem at152_18 : jm_at 152 18 = some (.iload_n 2) := by decide +kernel
theorem at152_19 : jm_at 152 19 = some (.aaload) := by decide +kernel
theorem at152_20 : jm_at 152 20 = some (.getfield 139) := by decide +kernel
theorem rv152g_139 : jm_rv 152 (.getfield 139) = (0, 5, 2, 0) := by decide +kernel
theorem at152_23 : jm_at 152 23 = some (.ifCond .eq 7) := by decide +kernel
theorem u152_13 {S : Option (Nat × (Nat → Int32))} {H : jm_H} {Q : Option Value → jm_H → Prop} {r0 : Nat} {x1 x2 : Int32} (h0 : jm_tg H r0 = 12) (h1 : ¬ jm_R H r0 9 = 0) (h2 : ¬ (x2 < 0 ∨ jm_ln H (jm_R H r0 9) ≤ Int32.toNatClampNeg x2)) (h3 : jm_tg H (jm_R H r0 9) = 104 ∨ jm_tg H (jm_R H r0 9) = 105) (h4 : ¬ jm_R H (jm_R H r0 9) (Int32.toNatClampNeg x2) = 0) (h5 : jm_tg H (jm_R H (jm_R H r0 9) (Int32.toNatClampNeg x2)) = 6) : jm_w S 1 152 13 [.ref r0, .int x1, .int x2] [] H Q = if (jm_I H (jm_R H (jm_R H r0 9) (Int32.toNatClampNeg x2)) 2) = 0 then jm_w S 1 152 30 [.ref r0, .int x1, .int x2] [.int x1] H Q else jm_w S 1 152 26 [.ref r0, .int x1, .int x2] [.int x1] H Q := (js1 at152_13 rfl rfl rfl).trans ((js1 at152_14 rfl rfl rfl).trans ((jsgR (H := H) at152_15 rv152g_63 rfl h0 h1 rfl).trans ((js1 at152_18 rfl rfl rfl).trans ((jsaal (H := H) at152_19 h3 h2 h4 rfl).trans ((jsgI (H := H) at152_20 rv152g_139 (Or.inr rfl) h5 rfl).trans (jsif (P := (jm_I H (jm_R H (jm_R H r0 9) (Int32.toNatClampNeg x2)) 2) = 0) at152_23 rfl rfl))))))
theorem at152_26 : jm_at 152 26 = some (.iconst 1) := by decide +kernel
theorem at152_27 : jm_at 152 27 = some (.goto 4) := by decide +kernel
theorem u152_26 {S : Option (Nat × (Nat → Int32))} {H : jm_H} {Q : Option Value → jm_H → Prop} {r0 : Nat} {x1 x2 p0 : Int32} : jm_w S 1 152 26 [.ref r0, .int x1, .int x2] [.int p0] H Q = jm_w S 1 152 31 [.ref r0, .int x1, .int x2] [.int (1 : Int32), .int p0] H Q := (jsci at152_26 rfl rfl).trans (js2 at152_27 rfl rfl)
theorem at152_30 : jm_at 152 30 = some (.iconst 0) := by decide +kernel
theorem u152_30 {S : Option (Nat × (Nat → Int32))} {H : jm_H} {Q : Option Value → jm_H → Prop} {r0 : Nat} {x1 x2 p0 : Int32} : jm_w S 1 152 30 [.ref r0, .int x1, .int x2] [.int p0] H Q = jm_w S 1 152 31 [.ref r0, .int x1, .int x2] [.int (0 : Int32), .int p0] H Q := jsci at152_30 rfl rfl
theorem at152_31 : jm_at 152 31 = some (.iadd) := by decide +kernel
theorem at152_32 : jm_at 152 32 = some (.istore_n 1) := by decide +kernel
theorem at152_33 : jm_at 152 33 = some (.iinc 2 1) := by decide +kernel
theorem at152_36 : jm_at 152 36 = some (.goto (-32)) := by decide +kernel
theorem u152_31 {S : Option (Nat × (Nat → Int32))} {H : jm_H} {Q : Option Value → jm_H → Prop} {r0 : Nat} {x1 x2 p0 p1 : Int32} : jm_w S 1 152 31 [.ref r0, .int x1, .int x2] [.int p1, .int p0] H Q = jm_w S 1 152 4 [.ref r0, .int (p0 + p1), .int (x2 + 1)] [] H Q := (js0 at152_31 rfl rfl rfl).trans ((js1 at152_32 rfl rfl rfl).trans ((jsinc at152_33 rfl rfl rfl).trans (js2 at152_36 rfl rfl)))
theorem at152_39 : jm_at 152 39 = some (.iload_n 1) := by decide +kernel
theorem at152_40 : jm_at 152 40 = some (.ireturn) := by decide +kernel
theorem u152_39 {S : Option (Nat × (Nat → Int32))} {H : jm_H} {Q : Option Value → jm_H → Prop} {r0 : Nat} {x1 x2 : Int32} : jm_w S 1 152 39 [.ref r0, .int x1, .int x2] [] H Q = Q (some (.int x1)) H := (js1 at152_39 rfl rfl rfl).trans (jsret_i at152_40 rfl)
theorem en152 {S : Option (Nat × (Nat → Int32))} {H : jm_H} {Q : Option Value → jm_H → Prop} {r0 : Nat} : jm_c S 152 [.ref r0] H Q = jm_w S 1 152 0 [.ref r0, .null, .null] [] H Q := rfl
