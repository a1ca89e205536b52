theorem at155_0 : jm_at 155 0 = some (.lconst 0) := rfl
theorem at155_1 : jm_at 155 1 = some (.iload_n 0) := rfl
theorem at155_2 : jm_at 155 2 = some (.invokestatic 120) := rfl
theorem rv155i_120 : jm_rv 155 (.invokestatic 120) = (1, 156, 0, 0) := rfl
theorem u155_0 {S : Option (Nat × (Nat → Int32))} {H : jm_H} {Q : Option Value → jm_H → Prop} {x0 x1 x2 x3 x4 x5 x6 : Int32} : jm_w S 2 155 0 [.int x0, .int x1, .int x2, .int x3, .int x4, .int x5, .int x6] [] H Q = jm_c S 156 [.long (0 : Int64), .int x0] H (fun v G => jm_w S 2 155 5 [.int x0, .int x1, .int x2, .int x3, .int x4, .int x5, .int x6] (v.toList ++ []) G Q) := (jscl at155_0 rfl rfl).trans ((js1 at155_1 rfl rfl rfl).trans (jscall (H := H) (as := [.long (0 : Int64), .int x0]) (q := []) at155_2 rfl rv155i_120 (jscut rfl rfl rfl (Nat.le_of_ble_eq_true rfl)) rfl (Nat.le_of_ble_eq_true rfl) rfl rfl))
theorem at155_5 : jm_at 155 5 = some (.iload_n 1) := rfl
theorem at155_6 : jm_at 155 6 = some (.invokestatic 120) := rfl
theorem u155_5 {S : Option (Nat × (Nat → Int32))} {H : jm_H} {Q : Option Value → jm_H → Prop} {x0 x1 x2 x3 x4 x5 x6 : Int32} {q0 : Int64} : jm_w S 2 155 5 [.int x0, .int x1, .int x2, .int x3, .int x4, .int x5, .int x6] [.long q0] H Q = jm_c S 156 [.long q0, .int x1] H (fun v G => jm_w S 2 155 9 [.int x0, .int x1, .int x2, .int x3, .int x4, .int x5, .int x6] (v.toList ++ []) G Q) := (js1 at155_5 rfl rfl rfl).trans (jscall (H := H) (as := [.long q0, .int x1]) (q := []) at155_6 rfl rv155i_120 (jscut rfl rfl rfl (Nat.le_of_ble_eq_true rfl)) rfl (Nat.le_of_ble_eq_true rfl) rfl rfl)
theorem at155_9 : jm_at 155 9 = some (.iload_n 2) := rfl
theorem at155_10 : jm_at 155 10 = some (.invokestatic 120) := rfl
theorem u155_9 {S : Option (Nat × (Nat → Int32))} {H : jm_H} {Q : Option Value → jm_H → Prop} {x0 x1 x2 x3 x4 x5 x6 : Int32} {q0 : Int64} : jm_w S 2 155 9 [.int x0, .int x1, .int x2, .int x3, .int x4, .int x5, .int x6] [.long q0] H Q = jm_c S 156 [.long q0, .int x2] H (fun v G => jm_w S 2 155 13 [.int x0, .int x1, .int x2, .int x3, .int x4, .int x5, .int x6] (v.toList ++ []) G Q) := (js1 at155_9 rfl rfl rfl).trans (jscall (H := H) (as := [.long q0, .int x2]) (q := []) at155_10 rfl rv155i_120 (jscut rfl rfl rfl (Nat.le_of_ble_eq_true rfl)) rfl (Nat.le_of_ble_eq_true rfl) rfl rfl)
theorem at155_13 : jm_at 155 13 = some (.iload_n 3) := rfl
theorem at155_14 : jm_at 155 14 = some (.invokestatic 120) := rfl
theorem u155_13 {S : Option (Nat × (Nat → Int32))} {H : jm_H} {Q : Option Value → jm_H → Prop} {x0 x1 x2 x3 x4 x5 x6 : Int32} {q0 : Int64} : jm_w S 2 155 13 [.int x0, .int x1, .int x2, .int x3, .int x4, .int x5, .int x6] [.long q0] H Q = jm_c S 156 [.long q0, .int x3] H (fun v G => jm_w S 2 155 17 [.int x0, .int x1, .int x2, .int x3, .int x4, .int x5, .int x6] (v.toList ++ []) G Q) := (js1 at155_13 rfl rfl rfl).trans (jscall (H := H) (as := [.long q0, .int x3]) (q := []) at155_14 rfl rv155i_120 (jscut rfl rfl rfl (Nat.le_of_ble_eq_true rfl)) rfl (Nat.le_of_ble_eq_true rfl) rfl rfl)
theorem at155_17 : jm_at 155 17 = some (.iload 4) := rfl
theorem at155_19 : jm_at 155 19 = some (.invokestatic 120) := rfl
theorem u155_17 {S : Option (Nat × (Nat → Int32))} {H : jm_H} {Q : Option Value → jm_H → Prop} {x0 x1 x2 x3 x4 x5 x6 : Int32} {q0 : Int64} : jm_w S 2 155 17 [.int x0, .int x1, .int x2, .int x3, .int x4, .int x5, .int x6] [.long q0] H Q = jm_c S 156 [.long q0, .int x4] H (fun v G => jm_w S 2 155 22 [.int x0, .int x1, .int x2, .int x3, .int x4, .int x5, .int x6] (v.toList ++ []) G Q) := (js1 at155_17 rfl rfl rfl).trans (jscall (H := H) (as := [.long q0, .int x4]) (q := []) at155_19 rfl rv155i_120 (jscut rfl rfl rfl (Nat.le_of_ble_eq_true rfl)) rfl (Nat.le_of_ble_eq_true rfl) rfl rfl)
theorem at155_22 : jm_at 155 22 = some (.iload 5) := rfl
theorem at155_24 : jm_at 155 24 = some (.invokestatic 120) := rfl
theorem u155_22 {S : Option (Nat × (Nat → Int32))} {H : jm_H} {Q : Option Value → jm_H → Prop} {x0 x1 x2 x3 x4 x5 x6 : Int32} {q0 : Int64} : jm_w S 2 155 22 [.int x0, .int x1, .int x2, .int x3, .int x4, .int x5, .int x6] [.long q0] H Q = jm_c S 156 [.long q0, .int x5] H (fun v G => jm_w S 2 155 27 [.int x0, .int x1, .int x2, .int x3, .int x4, .int x5, .int x6] (v.toList ++ []) G Q) := (js1 at155_22 rfl rfl rfl).trans (jscall (H := H) (as := [.long q0, .int x5]) (q := []) at155_24 rfl rv155i_120 (jscut rfl rfl rfl (Nat.le_of_ble_eq_true rfl)) rfl (Nat.le_of_ble_eq_true rfl) rfl rfl)
theorem at155_27 : jm_at 155 27 = some (.iload 6) := rfl
theorem at155_29 : jm_at 155 29 = some (.invokestatic 120) := rfl
theorem u155_27 {S : Option (Nat × (Nat → Int32))} {H : jm_H} {Q : Option Value → jm_H → Prop} {x0 x1 x2 x3 x4 x5 x6 : Int32} {q0 : Int64} : jm_w S 2 155 27 [.int x0, .int x1, .int x2, .int x3, .int x4, .int x5, .int x6] [.long q0] H Q = jm_c S 156 [.long q0, .int x6] H (fun v G => jm_w S 2 155 32 [.int x0, .int x1, .int x2, .int x3, .int x4, .int x5, .int x6] (v.toList ++ []) G Q) := (js1 at155_27 rfl rfl rfl).trans (jscall (H := H) (as := [.long q0, .int x6]) (q := []) at155_29 rfl rv155i_120 (jscut rfl rfl rfl (Nat.le_of_ble_eq_true rfl)) rfl (Nat.le_of_ble_eq_true rfl) rfl rfl)
theorem at155_32 : jm_at 155 32 = some (.lreturn) := rfl
theorem u155_32 {S : Option (Nat × (Nat → Int32))} {H : jm_H} {Q : Option Value → jm_H → Prop} {x0 x1 x2 x3 x4 x5 x6 : Int32} {q0 : Int64} : jm_w S 2 155 32 [.int x0, .int x1, .int x2, .int x3, .int x4, .int x5, .int x6] [.long q0] H Q = Q (some (.long q0)) H := jsret_l at155_32 rfl
theorem en155 {S : Option (Nat × (Nat → Int32))} {H : jm_H} {Q : Option Value → jm_H → Prop} {x0 x1 x2 x3 x4 x5 x6 : Int32} : jm_c S 155 [.int x0, .int x1, .int x2, .int x3, .int x4, .int x5, .int x6] H Q = jm_w S 2 155 0 [.int x0, .int x1, .int x2, .int x3, .int x4, .int x5, .int x6] [] H Q := rfl
theorem at156_0 : jm_at 156 0 = some (.iload_n 2) := rfl
theorem at156_1 : jm_at 156 1 = some (.ifCond .ne 7) := rfl
theorem u156_0 {S : Option (Nat × (Nat → Int32))} {H : jm_H} {Q : Option Value → jm_H → Prop} {y0 : Int64} {x2 : Int32} : jm_w S 1 156 0 [.long y0, .null, .int x2] [] H Q = if ¬ x2 = 0 then jm_w S 1 156 8 [.long y0, .null, .int x2] [] H Q else jm_w S 1 156 4 [.long y0, .null, .int x2] [] H Q := (js1 at156_0 rfl rfl rfl).trans (jsif (P := ¬ x2 = 0) at156_1 rfl rfl)
theorem at156_4 : jm_at 156 4 = some (.lload_n 0) := rfl
theorem at156_5 : jm_at 156 5 = some (.goto 16) := rfl
theorem u156_4 {S : Option (Nat × (Nat → Int32))} {H : jm_H} {Q : Option Value → jm_H → Prop} {y0 : Int64} {x2 : Int32} : jm_w S 1 156 4 [.long y0, .null, .int x2] [] H Q = jm_w S 1 156 21 [.long y0, .null, .int x2] [.long y0] H Q := (js1 at156_4 rfl rfl rfl).trans (js2 at156_5 rfl rfl)
theorem at156_8 : jm_at 156 8 = some (.ldc2_w 118) := rfl
theorem rv156l_118 : jm_rv 156 (.ldc2_w 118) = (9, 0, 0, 27) := rfl
theorem at156_11 : jm_at 156 11 = some (.lload_n 0) := rfl
theorem at156_12 : jm_at 156 12 = some (.lmul) := rfl
theorem at156_13 : jm_at 156 13 = some (.iload_n 2) := rfl
theorem at156_14 : jm_at 156 14 = some (.bipush 97) := rfl
theorem at156_16 : jm_at 156 16 = some (.isub) := rfl
theorem at156_17 : jm_at 156 17 = some (.iconst 1) := rfl
theorem at156_18 : jm_at 156 18 = some (.iadd) := rfl
theorem at156_19 : jm_at 156 19 = some (.i2l) := rfl
theorem at156_20 : jm_at 156 20 = some (.ladd) := rfl
theorem u156_8 {S : Option (Nat × (Nat → Int32))} {H : jm_H} {Q : Option Value → jm_H → Prop} {y0 : Int64} {x2 : Int32} : jm_w S 1 156 8 [.long y0, .null, .int x2] [] H Q = jm_w S 1 156 21 [.long y0, .null, .int x2] [.long (((27 : Int64) * y0) + (Int32.toInt64 ((x2 - (97 : Int32)) + (1 : Int32))))] H Q := (jsk2 at156_8 rv156l_118 rfl rfl).trans ((js1 at156_11 rfl rfl rfl).trans ((js0 at156_12 rfl rfl rfl).trans ((js1 at156_13 rfl rfl rfl).trans ((jscb at156_14 rfl rfl).trans ((js0 at156_16 rfl rfl rfl).trans ((jsci at156_17 rfl rfl).trans ((js0 at156_18 rfl rfl rfl).trans ((js0 at156_19 rfl rfl rfl).trans (js0 at156_20 rfl rfl rfl)))))))))
theorem at156_21 : jm_at 156 21 = some (.lreturn) := rfl
theorem u156_21 {S : Option (Nat × (Nat → Int32))} {H : jm_H} {Q : Option Value → jm_H → Prop} {y0 q0 : Int64} {x2 : Int32} : jm_w S 1 156 21 [.long y0, .null, .int x2] [.long q0] H Q = Q (some (.long q0)) H := jsret_l at156_21 rfl
theorem en156 {S : Option (Nat × (Nat → Int32))} {H : jm_H} {Q : Option Value → jm_H → Prop} {y0 : Int64} {x2 : Int32} : jm_c S 156 [.long y0, .int x2] H Q = jm_w S 1 156 0 [.long y0, .null, .int x2] [] H Q := rfl
theorem at157_0 : jm_at 157 0 = some (.aload_n 0) := rfl
theorem at157_1 : jm_at 157 1 = some (.getfield 108) := rfl
theorem rv157g_108 : jm_rv 157 (.getfield 108) = (0, 12, 2, 0) := rfl
theorem at157_4 : jm_at 157 4 = some (.bipush 20) := rfl
theorem at157_6 : jm_at 157 6 = some (.iadd) := rfl
theorem at157_7 : jm_at 157 7 = some (.sipush 2000) := rfl
theorem at157_10 : jm_at 157 10 = some (.if_icmp .le 5) := rfl
theorem u157_0 {S : Option (Nat × (Nat → Int32))} {H : jm_H} {Q : Option Value → jm_H → Prop} {r0 : Nat} {x1 x2 x3 x4 x5 : Int32} (h0 : jm_tg H r0 = 13) : jm_w S 2 157 0 [.ref r0, .int x1, .int x2, .int x3, .int x4, .int x5] [] H Q = if ((jm_I H r0 2) + (20 : Int32)) ≤ (2000 : Int32) then jm_w S 2 157 15 [.ref r0, .int x1, .int x2, .int x3, .int x4, .int x5] [] H Q else jm_w S 2 157 13 [.ref r0, .int x1, .int x2, .int x3, .int x4, .int x5] [] H Q := (js1 at157_0 rfl rfl rfl).trans ((jsgI (H := H) at157_1 rv157g_108 (Or.inl rfl) h0 rfl).trans ((jscb at157_4 rfl rfl).trans ((js0 at157_6 rfl rfl rfl).trans ((jscs at157_7 rfl rfl).trans (jsif (P := ((jm_I H r0 2) + (20 : Int32)) ≤ (2000 : Int32)) at157_10 rfl rfl)))))
theorem at157_13 : jm_at 157 13 = some (.iconst (-1)) := rfl
theorem at157_14 : jm_at 157 14 = some (.ireturn) := rfl
theorem u157_13 {S : Option (Nat × (Nat → Int32))} {H : jm_H} {Q : Option Value → jm_H → Prop} {r0 : Nat} {x1 x2 x3 x4 x5 : Int32} : jm_w S 2 157 13 [.ref r0, .int x1, .int x2, .int x3, .int x4, .int x5] [] H Q = Q (some (.int (-1 : Int32))) H := (jsci at157_13 rfl rfl).trans (jsret_i at157_14 rfl)
theorem at157_15 : jm_at 157 15 = some (.aload_n 0) := rfl
theorem at157_16 : jm_at 157 16 = some (.iload_n 1) := rfl
theorem at157_17 : jm_at 157 17 = some (.invokevirtual 111) := rfl
theorem rv157i_111 : jm_rv 157 (.invokevirtual 111) = (2, 158, 0, 0) := rfl
theorem u157_15 {S : Option (Nat × (Nat → Int32))} {H : jm_H} {Q : Option Value → jm_H → Prop} {r0 : Nat} {x1 x2 x3 x4 x5 : Int32} (h0 : jm_tg H r0 = 13) : jm_w S 2 157 15 [.ref r0, .int x1, .int x2, .int x3, .int x4, .int x5] [] H Q = jm_c S 158 [.ref r0, .int x1] H (fun v G => jm_w S 2 157 20 [.ref r0, .int x1, .int x2, .int x3, .int x4, .int x5] (v.toList ++ []) G Q) := (js1 at157_15 rfl rfl rfl).trans ((js1 at157_16 rfl rfl rfl).trans (jscall (H := H) (as := [.ref r0, .int x1]) (q := []) at157_17 rfl rv157i_111 (jscutV rfl rfl rfl (Nat.le_of_ble_eq_true rfl) rfl h0) rfl (Nat.le_of_ble_eq_true rfl) rfl rfl))
theorem at157_20 : jm_at 157 20 = some (.aload_n 0) := rfl
theorem at157_21 : jm_at 157 21 = some (.iload_n 2) := rfl
theorem at157_22 : jm_at 157 22 = some (.invokevirtual 111) := rfl
theorem u157_20 {S : Option (Nat × (Nat → Int32))} {H : jm_H} {Q : Option Value → jm_H → Prop} {r0 : Nat} {x1 x2 x3 x4 x5 : Int32} (h0 : jm_tg H r0 = 13) : jm_w S 2 157 20 [.ref r0, .int x1, .int x2, .int x3, .int x4, .int x5] [] H Q = jm_c S 158 [.ref r0, .int x2] H (fun v G => jm_w S 2 157 25 [.ref r0, .int x1, .int x2, .int x3, .int x4, .int x5] (v.toList ++ []) G Q) := (js1 at157_20 rfl rfl rfl).trans ((js1 at157_21 rfl rfl rfl).trans (jscall (H := H) (as := [.ref r0, .int x2]) (q := []) at157_22 rfl rv157i_111 (jscutV rfl rfl rfl (Nat.le_of_ble_eq_true rfl) rfl h0) rfl (Nat.le_of_ble_eq_true rfl) rfl rfl))
theorem at157_25 : jm_at 157 25 = some (.aload_n 0) := rfl
theorem at157_26 : jm_at 157 26 = some (.iload_n 3) := rfl
theorem at157_27 : jm_at 157 27 = some (.invokevirtual 111) := rfl
theorem u157_25 {S : Option (Nat × (Nat → Int32))} {H : jm_H} {Q : Option Value → jm_H → Prop} {r0 : Nat} {x1 x2 x3 x4 x5 : Int32} (h0 : jm_tg H r0 = 13) : jm_w S 2 157 25 [.ref r0, .int x1, .int x2, .int x3, .int x4, .int x5] [] H Q = jm_c S 158 [.ref r0, .int x3] H (fun v G => jm_w S 2 157 30 [.ref r0, .int x1, .int x2, .int x3, .int x4, .int x5] (v.toList ++ []) G Q) := (js1 at157_25 rfl rfl rfl).trans ((js1 at157_26 rfl rfl rfl).trans (jscall (H := H) (as := [.ref r0, .int x3]) (q := []) at157_27 rfl rv157i_111 (jscutV rfl rfl rfl (Nat.le_of_ble_eq_true rfl) rfl h0) rfl (Nat.le_of_ble_eq_true rfl) rfl rfl))
theorem at157_30 : jm_at 157 30 = some (.aload_n 0) := rfl
theorem at157_31 : jm_at 157 31 = some (.iload 4) := rfl
theorem at157_33 : jm_at 157 33 = some (.invokevirtual 111) := rfl
theorem u157_30 {S : Option (Nat × (Nat → Int32))} {H : jm_H} {Q : Option Value → jm_H → Prop} {r0 : Nat} {x1 x2 x3 x4 x5 : Int32} (h0 : jm_tg H r0 = 13) : jm_w S 2 157 30 [.ref r0, .int x1, .int x2, .int x3, .int x4, .int x5] [] H Q = jm_c S 158 [.ref r0, .int x4] H (fun v G => jm_w S 2 157 36 [.ref r0, .int x1, .int x2, .int x3, .int x4, .int x5] (v.toList ++ []) G Q) := (js1 at157_30 rfl rfl rfl).trans ((js1 at157_31 rfl rfl rfl).trans (jscall (H := H) (as := [.ref r0, .int x4]) (q := []) at157_33 rfl rv157i_111 (jscutV rfl rfl rfl (Nat.le_of_ble_eq_true rfl) rfl h0) rfl (Nat.le_of_ble_eq_true rfl) rfl rfl))
theorem at157_36 : jm_at 157 36 = some (.aload_n 0) := rfl
theorem at157_37 : jm_at 157 37 = some (.iload 5) := rfl
theorem at157_39 : jm_at 157 39 = some (.invokevirtual 111) := rfl
theorem u157_36 {S : Option (Nat × (Nat → Int32))} {H : jm_H} {Q : Option Value → jm_H → Prop} {r0 : Nat} {x1 x2 x3 x4 x5 : Int32} (h0 : jm_tg H r0 = 13) : jm_w S 2 157 36 [.ref r0, .int x1, .int x2, .int x3, .int x4, .int x5] [] H Q = jm_c S 158 [.ref r0, .int x5] H (fun v G => jm_w S 2 157 42 [.ref r0, .int x1, .int x2, .int x3, .int x4, .int x5] (v.toList ++ []) G Q) := (js1 at157_36 rfl rfl rfl).trans ((js1 at157_37 rfl rfl rfl).trans (jscall (H := H) (as := [.ref r0, .int x5]) (q := []) at157_39 rfl rv157i_111 (jscutV rfl rfl rfl (Nat.le_of_ble_eq_true rfl) rfl h0) rfl (Nat.le_of_ble_eq_true rfl) rfl rfl))
theorem at157_42 : jm_at 157 42 = some (.aload_n 0) := rfl
theorem at157_43 : jm_at 157 43 = some (.getfield 108) := rfl
theorem at157_46 : jm_at 157 46 = some (.ireturn) := rfl
theorem u157_42 {S : Option (Nat × (Nat → Int32))} {H : jm_H} {Q : Option Value → jm_H → Prop} {r0 : Nat} {x1 x2 x3 x4 x5 : Int32} (h0 : jm_tg H r0 = 13) : jm_w S 2 157 42 [.ref r0, .int x1, .int x2, .int x3, .int x4, .int x5] [] H Q = Q (some (.int (jm_I H r0 2))) H := (js1 at157_42 rfl rfl rfl).trans ((jsgI (H := H) at157_43 rv157g_108 (Or.inl rfl) h0 rfl).trans (jsret_i at157_46 rfl))
theorem en157 {S : Option (Nat × (Nat → Int32))} {H : jm_H} {Q : Option Value → jm_H → Prop} {r0 : Nat} {x1 x2 x3 x4 x5 : Int32} : jm_c S 157 [.ref r0, .int x1, .int x2, .int x3, .int x4, .int x5] H Q = jm_w S 2 157 0 [.ref r0, .int x1, .int x2, .int x3, .int x4, .int x5] [] H Q := rfl
theorem at158_0 : jm_at 158 0 = some (.bipush 24) := rfl
theorem at158_2 : jm_at 158 2 = some (.istore_n 2) := rfl
theorem u158_0 {S : Option (Nat × (Nat → Int32))} {H : jm_H} {Q : Option Value → jm_H → Prop} {r0 : Nat} {x1 : Int32} : jm_w S 1 158 0 [.ref r0, .int x1, .null] [] H Q = jm_w S 1 158 3 [.ref r0, .int x1, .int (24 : Int32)] [] H Q := (jscb at158_0 rfl rfl).trans (js1 at158_2 rfl rfl rfl)
theorem at158_3 : jm_at 158 3 = some (.iload_n 2) := rfl
theorem at158_4 : jm_at 158 4 = some (.ifCond .lt 32) := rfl
theorem u158_3 {S : Option (Nat × (Nat → Int32))} {H : jm_H} {Q : Option Value → jm_H → Prop} {r0 : Nat} {x1 x2 : Int32} : jm_w S 1 158 3 [.ref r0, .int x1, .int x2] [] H Q = if x2 < 0 then jm_w S 1 158 36 [.ref r0, .int x1, .int x2] [] H Q else jm_w S 1 158 7 [.ref r0, .int x1, .int x2] [] H Q := (js1 at158_3 rfl rfl rfl).trans (jsif (P := x2 < 0) at158_4 rfl rfl)
theorem at158_7 : jm_at 158 7 = some (.aload_n 0) := rfl
theorem at158_8 : jm_at 158 8 = some (.getfield 13) := rfl
theorem rv158g_13 : jm_rv 158 (.getfield 13) = (0, 12, 1, 0) := rfl
theorem at158_11 : jm_at 158 11 = some (.aload_n 0) := rfl
theorem at158_12 : jm_at 158 12 = some (.getfield 108) := rfl
theorem rv158g_108 : jm_rv 158 (.getfield 108) = (0, 12, 2, 0) := rfl
theorem at158_15 : jm_at 158 15 = some (.iload_n 1) := rfl
theorem at158_16 : jm_at 158 16 = some (.iload_n 2) := rfl
theorem at158_17 : jm_at 158 17 = some (.ishr) := rfl
theorem at158_18 : jm_at 158 18 = some (.i2b) := rfl
theorem at158_19 : jm_at 158 19 = some (.bastore) := rfl
theorem at158_20 : jm_at 158 20 = some (.aload_n 0) := rfl
theorem at158_21 : jm_at 158 21 = some (.dup) := rfl
theorem at158_22 : jm_at 158 22 = some (.getfield 108) := rfl
theorem at158_25 : jm_at 158 25 = some (.iconst 1) := rfl
theorem at158_26 : jm_at 158 26 = some (.iadd) := rfl
theorem at158_27 : jm_at 158 27 = some (.putfield 108) := rfl
theorem rv158p_108 : jm_rv 158 (.putfield 108) = (0, 12, 2, 0) := rfl
theorem at158_30 : jm_at 158 30 = some (.iinc 2 (-8)) := rfl
theorem at158_33 : jm_at 158 33 = some (.goto (-30)) := rfl
theorem u158_7 {S : Option (Nat × (Nat → Int32))} {H : jm_H} {Q : Option Value → jm_H → Prop} {r0 : Nat} {x1 x2 : Int32} (h0 : jm_tg H r0 = 13) (h1 : ¬ jm_R H r0 1 = 0) (h2 : ¬ ((jm_I H r0 2) < 0 ∨ jm_ln H (jm_R H r0 1) ≤ Int32.toNatClampNeg (jm_I H r0 2))) (h3 : jm_tg H (jm_R H r0 1) = 102) : jm_w S 1 158 7 [.ref r0, .int x1, .int x2] [] H Q = jm_w S 1 158 3 [.ref r0, .int x1, .int (x2 + (-8))] [] (jm_pI (jm_pI H (jm_R H r0 1) (Int32.toNatClampNeg (jm_I H r0 2)) (Int8.toInt32 (Int32.toInt8 (Int8.toInt32 (Int32.toInt8 (x1 >>> (x2 &&& 31))))))) r0 2 ((jm_I (jm_pI H (jm_R H r0 1) (Int32.toNatClampNeg (jm_I H r0 2)) (Int8.toInt32 (Int32.toInt8 (Int8.toInt32 (Int32.toInt8 (x1 >>> (x2 &&& 31))))))) r0 2) + (1 : Int32))) Q := (js1 at158_7 rfl rfl rfl).trans ((jsgR (H := H) at158_8 rv158g_13 rfl h0 h1 rfl).trans ((js1 at158_11 rfl rfl rfl).trans ((jsgI (H := H) at158_12 rv158g_108 (Or.inl rfl) h0 rfl).trans ((js1 at158_15 rfl rfl rfl).trans ((js1 at158_16 rfl rfl rfl).trans ((js0 at158_17 rfl rfl rfl).trans ((js0 at158_18 rfl rfl rfl).trans ((jsbas (H := H) at158_19 h3 h2 rfl).trans ((js1 at158_20 rfl rfl rfl).trans ((js0 at158_21 rfl rfl rfl).trans ((jsgI (H := (jm_pI H (jm_R H r0 1) (Int32.toNatClampNeg (jm_I H r0 2)) (Int8.toInt32 (Int32.toInt8 (Int8.toInt32 (Int32.toInt8 (x1 >>> (x2 &&& 31)))))))) at158_22 rv158g_108 (Or.inl rfl) h0 rfl).trans ((jsci at158_25 rfl rfl).trans ((js0 at158_26 rfl rfl rfl).trans ((jspI (H := (jm_pI H (jm_R H r0 1) (Int32.toNatClampNeg (jm_I H r0 2)) (Int8.toInt32 (Int32.toInt8 (Int8.toInt32 (Int32.toInt8 (x1 >>> (x2 &&& 31)))))))) at158_27 rv158p_108 rfl h0 rfl).trans ((jsinc at158_30 rfl rfl rfl).trans (js2 at158_33 rfl rfl))))))))))))))))
theorem at158_36 : jm_at 158 36 = some (.return_) := rfl
theorem u158_36 {S : Option (Nat × (Nat → Int32))} {H : jm_H} {Q : Option Value → jm_H → Prop} {r0 : Nat} {x1 x2 : Int32} : jm_w S 1 158 36 [.ref r0, .int x1, .int x2] [] H Q = Q none H := jsret_v at158_36 rfl
theorem en158 {S : Option (Nat × (Nat → Int32))} {H : jm_H} {Q : Option Value → jm_H → Prop} {r0 : Nat} {x1 : Int32} : jm_c S 158 [.ref r0, .int x1] H Q = jm_w S 1 158 0 [.ref r0, .int x1, .null] [] H Q := rfl
theorem at159_0 : jm_at 159 0 = some (.iload_n 1) := rfl
theorem at159_1 : jm_at 159 1 = some (.ifCond .lt 11) := rfl
theorem u159_0 {S : Option (Nat × (Nat → Int32))} {H : jm_H} {Q : Option Value → jm_H → Prop} {r0 : Nat} {x1 : Int32} : jm_w S 1 159 0 [.ref r0, .int x1] [] H Q = if x1 < 0 then jm_w S 1 159 12 [.ref r0, .int x1] [] H Q else jm_w S 1 159 4 [.ref r0, .int x1] [] H Q := (js1 at159_0 rfl rfl rfl).trans (jsif (P := x1 < 0) at159_1 rfl rfl)
theorem at159_4 : jm_at 159 4 = some (.iload_n 1) := rfl
theorem at159_5 : jm_at 159 5 = some (.aload_n 0) := rfl
theorem at159_6 : jm_at 159 6 = some (.getfield 108) := rfl
theorem rv159g_108 : jm_rv 159 (.getfield 108) = (0, 12, 2, 0) := rfl
theorem at159_9 : jm_at 159 9 = some (.if_icmp .le 5) := rfl
theorem u159_4 {S : Option (Nat × (Nat → Int32))} {H : jm_H} {Q : Option Value → jm_H → Prop} {r0 : Nat} {x1 : Int32} (h0 : jm_tg H r0 = 13) : jm_w S 1 159 4 [.ref r0, .int x1] [] H Q = if x1 ≤ (jm_I H r0 2) then jm_w S 1 159 14 [.ref r0, .int x1] [] H Q else jm_w S 1 159 12 [.ref r0, .int x1] [] H Q := (js1 at159_4 rfl rfl rfl).trans ((js1 at159_5 rfl rfl rfl).trans ((jsgI (H := H) at159_6 rv159g_108 (Or.inl rfl) h0 rfl).trans (jsif (P := x1 ≤ (jm_I H r0 2)) at159_9 rfl rfl)))
theorem at159_12 : jm_at 159 12 = some (.iconst (-1)) := rfl
theorem at159_13 : jm_at 159 13 = some (.ireturn) := rfl
theorem u159_12 {S : Option (Nat × (Nat → Int32))} {H : jm_H} {Q : Option Value → jm_H → Prop} {r0 : Nat} {x1 : Int32} : jm_w S 1 159 12 [.ref r0, .int x1] [] H Q = Q (some (.int (-1 : Int32))) H := (jsci at159_12 rfl rfl).trans (jsret_i at159_13 rfl)
theorem at159_14 : jm_at 159 14 = some (.aload_n 0) := rfl
theorem at159_15 : jm_at 159 15 = some (.dup) := rfl
theorem at159_16 : jm_at 159 16 = some (.getfield 108) := rfl
theorem at159_19 : jm_at 159 19 = some (.iload_n 1) := rfl
theorem at159_20 : jm_at 159 20 = some (.isub) := rfl
theorem at159_21 : jm_at 159 21 = some (.putfield 108) := rfl
theorem rv159p_108 : jm_rv 159 (.putfield 108) = (0, 12, 2, 0) := rfl
theorem at159_24 : jm_at 159 24 = some (.aload_n 0) := rfl
theorem at159_25 : jm_at 159 25 = some (.getfield 108) := rfl
theorem at159_28 : jm_at 159 28 = some (.ireturn) := rfl
theorem u159_14 {S : Option (Nat × (Nat → Int32))} {H : jm_H} {Q : Option Value → jm_H → Prop} {r0 : Nat} {x1 : Int32} (h0 : jm_tg H r0 = 13) : jm_w S 1 159 14 [.ref r0, .int x1] [] H Q = Q (some (.int (jm_I (jm_pI H r0 2 ((jm_I H r0 2) - x1)) r0 2))) (jm_pI H r0 2 ((jm_I H r0 2) - x1)) := (js1 at159_14 rfl rfl rfl).trans ((js0 at159_15 rfl rfl rfl).trans ((jsgI (H := H) at159_16 rv159g_108 (Or.inl rfl) h0 rfl).trans ((js1 at159_19 rfl rfl rfl).trans ((js0 at159_20 rfl rfl rfl).trans ((jspI (H := H) at159_21 rv159p_108 rfl h0 rfl).trans ((js1 at159_24 rfl rfl rfl).trans ((jsgI (H := (jm_pI H r0 2 ((jm_I H r0 2) - x1))) at159_25 rv159g_108 (Or.inl rfl) h0 rfl).trans (jsret_i at159_28 rfl))))))))
theorem en159 {S : Option (Nat × (Nat → Int32))} {H : jm_H} {Q : Option Value → jm_H → Prop} {r0 : Nat} {x1 : Int32} : jm_c S 159 [.ref r0, .int x1] H Q = jm_w S 1 159 0 [.ref r0, .int x1] [] H Q := rfl
theorem at160_0 : jm_at 160 0 = some (.aload_n 0) := rfl
theorem at160_1 : jm_at 160 1 = some (.aload_n 0) := rfl
theorem at160_2 : jm_at 160 2 = some (.getfield 108) := rfl
theorem rv160g_108 : jm_rv 160 (.getfield 108) = (0, 12, 2, 0) := rfl
theorem at160_5 : jm_at 160 5 = some (.putfield 115) := rfl
theorem rv160p_115 : jm_rv 160 (.putfield 115) = (0, 12, 4, 0) := rfl
theorem at160_8 : jm_at 160 8 = some (.iconst 0) := rfl
theorem at160_9 : jm_at 160 9 = some (.istore_n 1) := rfl
theorem u160_0 {S : Option (Nat × (Nat → Int32))} {H : jm_H} {Q : Option Value → jm_H → Prop} {r0 : Nat} (h0 : jm_tg H r0 = 13) : jm_w S 10 160 0 [.ref r0, .null] [] H Q = jm_w S 10 160 10 [.ref r0, .int (0 : Int32)] [] (jm_pI H r0 4 (jm_I H r0 2)) Q := (js1 at160_0 rfl rfl rfl).trans ((js1 at160_1 rfl rfl rfl).trans ((jsgI (H := H) at160_2 rv160g_108 (Or.inl rfl) h0 rfl).trans ((jspI (H := H) at160_5 rv160p_115 rfl h0 rfl).trans ((jsci at160_8 rfl rfl).trans (js1 at160_9 rfl rfl rfl)))))
theorem at160_10 : jm_at 160 10 = some (.iload_n 1) := rfl
theorem at160_11 : jm_at 160 11 = some (.aload_n 0) := rfl
theorem at160_12 : jm_at 160 12 = some (.getfield 115) := rfl
theorem rv160g_115 : jm_rv 160 (.getfield 115) = (0, 12, 4, 0) := rfl
theorem at160_15 : jm_at 160 15 = some (.if_icmp .ge 21) := rfl
theorem u160_10 {S : Option (Nat × (Nat → Int32))} {H : jm_H} {Q : Option Value → jm_H → Prop} {r0 : Nat} {x1 : Int32} (h0 : jm_tg H r0 = 13) : jm_w S 10 160 10 [.ref r0, .int x1] [] H Q = if (jm_I H r0 4) ≤ x1 then jm_w S 10 160 36 [.ref r0, .int x1] [] H Q else jm_w S 10 160 18 [.ref r0, .int x1] [] H Q := (js1 at160_10 rfl rfl rfl).trans ((js1 at160_11 rfl rfl rfl).trans ((jsgI (H := H) at160_12 rv160g_115 (Or.inl rfl) h0 rfl).trans (jsif (P := (jm_I H r0 4) ≤ x1) at160_15 rfl rfl)))
theorem at160_18 : jm_at 160 18 = some (.aload_n 0) := rfl
theorem at160_19 : jm_at 160 19 = some (.getfield 17) := rfl
theorem rv160g_17 : jm_rv 160 (.getfield 17) = (0, 12, 3, 0) := rfl
theorem at160_22 : jm_at 160 22 = some (.iload_n 1) := rfl
theorem at160_23 : jm_at 160 23 = some (.aload_n 0) := rfl
theorem at160_24 : jm_at 160 24 = some (.getfield 13) := rfl
theorem rv160g_13 : jm_rv 160 (.getfield 13) = (0, 12, 1, 0) := rfl
theorem at160_27 : jm_at 160 27 = some (.iload_n 1) := rfl
theorem at160_28 : jm_at 160 28 = some (.baload) := rfl
theorem at160_29 : jm_at 160 29 = some (.bastore) := rfl
theorem at160_30 : jm_at 160 30 = some (.iinc 1 1) := rfl
theorem at160_33 : jm_at 160 33 = some (.goto (-23)) := rfl
theorem u160_18 {S : Option (Nat × (Nat → Int32))} {H : jm_H} {Q : Option Value → jm_H → Prop} {r0 : Nat} {x1 : Int32} (h0 : jm_tg H r0 = 13) (h1 : ¬ jm_R H r0 3 = 0) (h2 : ¬ jm_R H r0 1 = 0) (h3 : ¬ (x1 < 0 ∨ jm_ln H (jm_R H r0 1) ≤ Int32.toNatClampNeg x1)) (h4 : jm_tg H (jm_R H r0 1) = 102 ∨ jm_tg H (jm_R H r0 1) = 103) (h5 : ¬ (x1 < 0 ∨ jm_ln H (jm_R H r0 3) ≤ Int32.toNatClampNeg x1)) (h6 : jm_tg H (jm_R H r0 3) = 102) : jm_w S 10 160 18 [.ref r0, .int x1] [] H Q = jm_w S 10 160 10 [.ref r0, .int (x1 + 1)] [] (jm_pI H (jm_R H r0 3) (Int32.toNatClampNeg x1) (Int8.toInt32 (Int32.toInt8 (jm_I H (jm_R H r0 1) (Int32.toNatClampNeg x1))))) Q := (js1 at160_18 rfl rfl rfl).trans ((jsgR (H := H) at160_19 rv160g_17 rfl h0 h1 rfl).trans ((js1 at160_22 rfl rfl rfl).trans ((js1 at160_23 rfl rfl rfl).trans ((jsgR (H := H) at160_24 rv160g_13 rfl h0 h2 rfl).trans ((js1 at160_27 rfl rfl rfl).trans ((jsbal (H := H) at160_28 h4 h3 rfl).trans ((jsbas (H := H) at160_29 h6 h5 rfl).trans ((jsinc at160_30 rfl rfl rfl).trans (js2 at160_33 rfl rfl)))))))))
theorem at160_36 : jm_at 160 36 = some (.aload_n 0) := rfl
theorem at160_37 : jm_at 160 37 = some (.iconst 0) := rfl
theorem at160_38 : jm_at 160 38 = some (.putfield 108) := rfl
theorem rv160p_108 : jm_rv 160 (.putfield 108) = (0, 12, 2, 0) := rfl
theorem at160_41 : jm_at 160 41 = some (.aload_n 0) := rfl
theorem at160_42 : jm_at 160 42 = some (.invokevirtual 173) := rfl
theorem rv160i_173 : jm_rv 160 (.invokevirtual 173) = (2, 161, 0, 0) := rfl
theorem u160_36 {S : Option (Nat × (Nat → Int32))} {H : jm_H} {Q : Option Value → jm_H → Prop} {r0 : Nat} {x1 : Int32} (h0 : jm_tg H r0 = 13) : jm_w S 10 160 36 [.ref r0, .int x1] [] H Q = jm_c S 161 [.ref r0] (jm_pI H r0 2 (0 : Int32)) (fun v G => jm_w S 10 160 45 [.ref r0, .int x1] (v.toList ++ []) G Q) := (js1 at160_36 rfl rfl rfl).trans ((jsci at160_37 rfl rfl).trans ((jspI (H := H) at160_38 rv160p_108 rfl h0 rfl).trans ((js1 at160_41 rfl rfl rfl).trans (jscall (H := (jm_pI H r0 2 (0 : Int32))) (as := [.ref r0]) (q := []) at160_42 rfl rv160i_173 (jscutV rfl rfl rfl (Nat.le_of_ble_eq_true rfl) rfl h0) rfl (Nat.le_of_ble_eq_true rfl) rfl rfl))))
theorem at160_45 : jm_at 160 45 = some (.aload_n 0) := rfl
theorem at160_46 : jm_at 160 46 = some (.iconst 0) := rfl
theorem at160_47 : jm_at 160 47 = some (.putfield 152) := rfl
theorem rv160p_152 : jm_rv 160 (.putfield 152) = (0, 12, 11, 0) := rfl
theorem at160_50 : jm_at 160 50 = some (.aload_n 0) := rfl
theorem at160_51 : jm_at 160 51 = some (.iconst 0) := rfl
theorem at160_52 : jm_at 160 52 = some (.putfield 149) := rfl
theorem rv160p_149 : jm_rv 160 (.putfield 149) = (0, 12, 12, 0) := rfl
theorem at160_55 : jm_at 160 55 = some (.aload_n 0) := rfl
theorem at160_56 : jm_at 160 56 = some (.iconst 0) := rfl
theorem at160_57 : jm_at 160 57 = some (.putfield 158) := rfl
theorem rv160p_158 : jm_rv 160 (.putfield 158) = (0, 12, 14, 0) := rfl
theorem at160_60 : jm_at 160 60 = some (.aload_n 0) := rfl
theorem at160_61 : jm_at 160 61 = some (.iconst 0) := rfl
theorem at160_62 : jm_at 160 62 = some (.putfield 176) := rfl
theorem rv160p_176 : jm_rv 160 (.putfield 176) = (0, 12, 18, 0) := rfl
theorem at160_65 : jm_at 160 65 = some (.aload_n 0) := rfl
theorem at160_66 : jm_at 160 66 = some (.bipush 20) := rfl
theorem at160_68 : jm_at 160 68 = some (.invokevirtual 179) := rfl
theorem rv160i_179 : jm_rv 160 (.invokevirtual 179) = (2, 168, 0, 0) := rfl
theorem u160_45 {S : Option (Nat × (Nat → Int32))} {H : jm_H} {Q : Option Value → jm_H → Prop} {r0 : Nat} {x1 : Int32} (h0 : jm_tg H r0 = 13) : jm_w S 10 160 45 [.ref r0, .int x1] [] H Q = jm_c S 168 [.ref r0, .int (20 : Int32)] (jm_pI (jm_pI (jm_pI (jm_pI H r0 11 (0 : Int32)) r0 12 (0 : Int32)) r0 14 (0 : Int32)) r0 18 (0 : Int32)) (fun v G => jm_w S 10 160 71 [.ref r0, .int x1] (v.toList ++ []) G Q) := (js1 at160_45 rfl rfl rfl).trans ((jsci at160_46 rfl rfl).trans ((jspI (H := H) at160_47 rv160p_152 rfl h0 rfl).trans ((js1 at160_50 rfl rfl rfl).trans ((jsci at160_51 rfl rfl).trans ((jspI (H := (jm_pI H r0 11 (0 : Int32))) at160_52 rv160p_149 rfl h0 rfl).trans ((js1 at160_55 rfl rfl rfl).trans ((jsci at160_56 rfl rfl).trans ((jspI (H := (jm_pI (jm_pI H r0 11 (0 : Int32)) r0 12 (0 : Int32))) at160_57 rv160p_158 rfl h0 rfl).trans ((js1 at160_60 rfl rfl rfl).trans ((jsci at160_61 rfl rfl).trans ((jspI (H := (jm_pI (jm_pI (jm_pI H r0 11 (0 : Int32)) r0 12 (0 : Int32)) r0 14 (0 : Int32))) at160_62 rv160p_176 rfl h0 rfl).trans ((js1 at160_65 rfl rfl rfl).trans ((jscb at160_66 rfl rfl).trans (jscall (H := (jm_pI (jm_pI (jm_pI (jm_pI H r0 11 (0 : Int32)) r0 12 (0 : Int32)) r0 14 (0 : Int32)) r0 18 (0 : Int32))) (as := [.ref r0, .int (20 : Int32)]) (q := []) at160_68 rfl rv160i_179 (jscutV rfl rfl rfl (Nat.le_of_ble_eq_true rfl) rfl h0) rfl (Nat.le_of_ble_eq_true rfl) rfl rfl))))))))))))))
theorem at160_71 : jm_at 160 71 = some (.aload_n 0) := rfl
theorem at160_72 : jm_at 160 72 = some (.iconst 2) := rfl
theorem at160_73 : jm_at 160 73 = some (.invokevirtual 179) := rfl
theorem u160_71 {S : Option (Nat × (Nat → Int32))} {H : jm_H} {Q : Option Value → jm_H → Prop} {r0 : Nat} {x1 : Int32} (h0 : jm_tg H r0 = 13) : jm_w S 10 160 71 [.ref r0, .int x1] [] H Q = jm_c S 168 [.ref r0, .int (2 : Int32)] H (fun v G => jm_w S 10 160 76 [.ref r0, .int x1] (v.toList ++ []) G Q) := (js1 at160_71 rfl rfl rfl).trans ((jsci at160_72 rfl rfl).trans (jscall (H := H) (as := [.ref r0, .int (2 : Int32)]) (q := []) at160_73 rfl rv160i_179 (jscutV rfl rfl rfl (Nat.le_of_ble_eq_true rfl) rfl h0) rfl (Nat.le_of_ble_eq_true rfl) rfl rfl))
theorem at160_76 : jm_at 160 76 = some (.aload_n 0) := rfl
theorem at160_77 : jm_at 160 77 = some (.iconst 2) := rfl
theorem at160_78 : jm_at 160 78 = some (.invokevirtual 179) := rfl
theorem u160_76 {S : Option (Nat × (Nat → Int32))} {H : jm_H} {Q : Option Value → jm_H → Prop} {r0 : Nat} {x1 : Int32} (h0 : jm_tg H r0 = 13) : jm_w S 10 160 76 [.ref r0, .int x1] [] H Q = jm_c S 168 [.ref r0, .int (2 : Int32)] H (fun v G => jm_w S 10 160 81 [.ref r0, .int x1] (v.toList ++ []) G Q) := (js1 at160_76 rfl rfl rfl).trans ((jsci at160_77 rfl rfl).trans (jscall (H := H) (as := [.ref r0, .int (2 : Int32)]) (q := []) at160_78 rfl rv160i_179 (jscutV rfl rfl rfl (Nat.le_of_ble_eq_true rfl) rfl h0) rfl (Nat.le_of_ble_eq_true rfl) rfl rfl))
theorem at160_81 : jm_at 160 81 = some (.aload_n 0) := rfl
theorem at160_82 : jm_at 160 82 = some (.iconst 4) := rfl
theorem at160_83 : jm_at 160 83 = some (.invokevirtual 179) := rfl
theorem u160_81 {S : Option (Nat × (Nat → Int32))} {H : jm_H} {Q : Option Value → jm_H → Prop} {r0 : Nat} {x1 : Int32} (h0 : jm_tg H r0 = 13) : jm_w S 10 160 81 [.ref r0, .int x1] [] H Q = jm_c S 168 [.ref r0, .int (4 : Int32)] H (fun v G => jm_w S 10 160 86 [.ref r0, .int x1] (v.toList ++ []) G Q) := (js1 at160_81 rfl rfl rfl).trans ((jsci at160_82 rfl rfl).trans (jscall (H := H) (as := [.ref r0, .int (4 : Int32)]) (q := []) at160_83 rfl rv160i_179 (jscutV rfl rfl rfl (Nat.le_of_ble_eq_true rfl) rfl h0) rfl (Nat.le_of_ble_eq_true rfl) rfl rfl))
theorem at160_86 : jm_at 160 86 = some (.aload_n 0) := rfl
theorem at160_87 : jm_at 160 87 = some (.getfield 149) := rfl
theorem rv160g_149 : jm_rv 160 (.getfield 149) = (0, 12, 12, 0) := rfl
theorem at160_90 : jm_at 160 90 = some (.ifCond .ne 18) := rfl
theorem u160_86 {S : Option (Nat × (Nat → Int32))} {H : jm_H} {Q : Option Value → jm_H → Prop} {r0 : Nat} {x1 : Int32} (h0 : jm_tg H r0 = 13) : jm_w S 10 160 86 [.ref r0, .int x1] [] H Q = if ¬ (jm_I H r0 12) = 0 then jm_w S 10 160 108 [.ref r0, .int x1] [] H Q else jm_w S 10 160 93 [.ref r0, .int x1] [] H Q := (js1 at160_86 rfl rfl rfl).trans ((jsgI (H := H) at160_87 rv160g_149 (Or.inl rfl) h0 rfl).trans (jsif (P := ¬ (jm_I H r0 12) = 0) at160_90 rfl rfl))
theorem at160_93 : jm_at 160 93 = some (.aload_n 0) := rfl
theorem at160_94 : jm_at 160 94 = some (.iconst 0) := rfl
theorem at160_95 : jm_at 160 95 = some (.invokevirtual 167) := rfl
theorem rv160i_167 : jm_rv 160 (.invokevirtual 167) = (2, 169, 0, 0) := rfl
theorem u160_93 {S : Option (Nat × (Nat → Int32))} {H : jm_H} {Q : Option Value → jm_H → Prop} {r0 : Nat} {x1 : Int32} (h0 : jm_tg H r0 = 13) : jm_w S 10 160 93 [.ref r0, .int x1] [] H Q = jm_c S 169 [.ref r0, .int (0 : Int32)] H (fun v G => jm_w S 10 160 98 [.ref r0, .int x1] (v.toList ++ []) G Q) := (js1 at160_93 rfl rfl rfl).trans ((jsci at160_94 rfl rfl).trans (jscall (H := H) (as := [.ref r0, .int (0 : Int32)]) (q := []) at160_95 rfl rv160i_167 (jscutV rfl rfl rfl (Nat.le_of_ble_eq_true rfl) rfl h0) rfl (Nat.le_of_ble_eq_true rfl) rfl rfl))
theorem at160_98 : jm_at 160 98 = some (.ifCond .ne 10) := rfl
theorem u160_98 {S : Option (Nat × (Nat → Int32))} {H : jm_H} {Q : Option Value → jm_H → Prop} {r0 : Nat} {x1 p0 : Int32} : jm_w S 10 160 98 [.ref r0, .int x1] [.int p0] H Q = if ¬ p0 = 0 then jm_w S 10 160 108 [.ref r0, .int x1] [] H Q else jm_w S 10 160 101 [.ref r0, .int x1] [] H Q := jsif (P := ¬ p0 = 0) at160_98 rfl rfl
theorem at160_101 : jm_at 160 101 = some (.aload_n 0) := rfl
theorem at160_102 : jm_at 160 102 = some (.invokevirtual 182) := rfl
theorem rv160i_182 : jm_rv 160 (.invokevirtual 182) = (2, 172, 0, 0) := rfl
theorem u160_101 {S : Option (Nat × (Nat → Int32))} {H : jm_H} {Q : Option Value → jm_H → Prop} {r0 : Nat} {x1 : Int32} (h0 : jm_tg H r0 = 13) : jm_w S 10 160 101 [.ref r0, .int x1] [] H Q = jm_c S 172 [.ref r0] H (fun v G => jm_w S 10 160 105 [.ref r0, .int x1] (v.toList ++ []) G Q) := (js1 at160_101 rfl rfl rfl).trans (jscall (H := H) (as := [.ref r0]) (q := []) at160_102 rfl rv160i_182 (jscutV rfl rfl rfl (Nat.le_of_ble_eq_true rfl) rfl h0) rfl (Nat.le_of_ble_eq_true rfl) rfl rfl)
theorem at160_105 : jm_at 160 105 = some (.goto (-19)) := rfl
theorem u160_105 {S : Option (Nat × (Nat → Int32))} {H : jm_H} {Q : Option Value → jm_H → Prop} {r0 : Nat} {x1 : Int32} : jm_w S 10 160 105 [.ref r0, .int x1] [] H Q = jm_w S 10 160 86 [.ref r0, .int x1] [] H Q := js2 at160_105 rfl rfl
theorem at160_108 : jm_at 160 108 = some (.aload_n 0) := rfl
theorem at160_109 : jm_at 160 109 = some (.getfield 149) := rfl
theorem at160_112 : jm_at 160 112 = some (.ifCond .ne 7) := rfl
theorem u160_108 {S : Option (Nat × (Nat → Int32))} {H : jm_H} {Q : Option Value → jm_H → Prop} {r0 : Nat} {x1 : Int32} (h0 : jm_tg H r0 = 13) : jm_w S 10 160 108 [.ref r0, .int x1] [] H Q = if ¬ (jm_I H r0 12) = 0 then jm_w S 10 160 119 [.ref r0, .int x1] [] H Q else jm_w S 10 160 115 [.ref r0, .int x1] [] H Q := (js1 at160_108 rfl rfl rfl).trans ((jsgI (H := H) at160_109 rv160g_149 (Or.inl rfl) h0 rfl).trans (jsif (P := ¬ (jm_I H r0 12) = 0) at160_112 rfl rfl))
theorem at160_115 : jm_at 160 115 = some (.aload_n 0) := rfl
theorem at160_116 : jm_at 160 116 = some (.invokevirtual 185) := rfl
theorem rv160i_185 : jm_rv 160 (.invokevirtual 185) = (2, 175, 0, 0) := rfl
theorem u160_115 {S : Option (Nat × (Nat → Int32))} {H : jm_H} {Q : Option Value → jm_H → Prop} {r0 : Nat} {x1 : Int32} (h0 : jm_tg H r0 = 13) : jm_w S 10 160 115 [.ref r0, .int x1] [] H Q = jm_c S 175 [.ref r0] H (fun v G => jm_w S 10 160 119 [.ref r0, .int x1] (v.toList ++ []) G Q) := (js1 at160_115 rfl rfl rfl).trans (jscall (H := H) (as := [.ref r0]) (q := []) at160_116 rfl rv160i_185 (jscutV rfl rfl rfl (Nat.le_of_ble_eq_true rfl) rfl h0) rfl (Nat.le_of_ble_eq_true rfl) rfl rfl)
theorem at160_119 : jm_at 160 119 = some (.aload_n 0) := rfl
theorem at160_120 : jm_at 160 120 = some (.aload_n 0) := rfl
theorem at160_121 : jm_at 160 121 = some (.getfield 149) := rfl
theorem at160_124 : jm_at 160 124 = some (.ifCond .le 10) := rfl
theorem u160_119 {S : Option (Nat × (Nat → Int32))} {H : jm_H} {Q : Option Value → jm_H → Prop} {r0 : Nat} {x1 : Int32} (h0 : jm_tg H r0 = 13) : jm_w S 10 160 119 [.ref r0, .int x1] [] H Q = if (jm_I H r0 12) ≤ 0 then jm_w S 10 160 134 [.ref r0, .int x1] [.ref r0] H Q else jm_w S 10 160 127 [.ref r0, .int x1] [.ref r0] H Q := (js1 at160_119 rfl rfl rfl).trans ((js1 at160_120 rfl rfl rfl).trans ((jsgI (H := H) at160_121 rv160g_149 (Or.inl rfl) h0 rfl).trans (jsif (P := (jm_I H r0 12) ≤ 0) at160_124 rfl rfl)))
theorem at160_127 : jm_at 160 127 = some (.aload_n 0) := rfl
theorem at160_128 : jm_at 160 128 = some (.getfield 155) := rfl
theorem rv160g_155 : jm_rv 160 (.getfield 155) = (0, 12, 13, 0) := rfl
theorem at160_131 : jm_at 160 131 = some (.goto 18) := rfl
theorem u160_127 {S : Option (Nat × (Nat → Int32))} {H : jm_H} {Q : Option Value → jm_H → Prop} {r0 o0 : Nat} {x1 : Int32} (h0 : jm_tg H r0 = 13) : jm_w S 10 160 127 [.ref r0, .int x1] [.ref o0] H Q = jm_w S 10 160 149 [.ref r0, .int x1] [.int (jm_I H r0 13), .ref o0] H Q := (js1 at160_127 rfl rfl rfl).trans ((jsgI (H := H) at160_128 rv160g_155 (Or.inl rfl) h0 rfl).trans (js2 at160_131 rfl rfl))
theorem at160_134 : jm_at 160 134 = some (.aload_n 0) := rfl
theorem at160_135 : jm_at 160 135 = some (.getfield 158) := rfl
theorem rv160g_158 : jm_rv 160 (.getfield 158) = (0, 12, 14, 0) := rfl
theorem at160_138 : jm_at 160 138 = some (.ifCond .le 10) := rfl
theorem u160_134 {S : Option (Nat × (Nat → Int32))} {H : jm_H} {Q : Option Value → jm_H → Prop} {r0 o0 : Nat} {x1 : Int32} (h0 : jm_tg H r0 = 13) : jm_w S 10 160 134 [.ref r0, .int x1] [.ref o0] H Q = if (jm_I H r0 14) ≤ 0 then jm_w S 10 160 148 [.ref r0, .int x1] [.ref o0] H Q else jm_w S 10 160 141 [.ref r0, .int x1] [.ref o0] H Q := (js1 at160_134 rfl rfl rfl).trans ((jsgI (H := H) at160_135 rv160g_158 (Or.inl rfl) h0 rfl).trans (jsif (P := (jm_I H r0 14) ≤ 0) at160_138 rfl rfl))
theorem at160_141 : jm_at 160 141 = some (.aload_n 0) := rfl
theorem at160_142 : jm_at 160 142 = some (.getfield 161) := rfl
theorem rv160g_161 : jm_rv 160 (.getfield 161) = (0, 12, 15, 0) := rfl
theorem at160_145 : jm_at 160 145 = some (.goto 4) := rfl
theorem u160_141 {S : Option (Nat × (Nat → Int32))} {H : jm_H} {Q : Option Value → jm_H → Prop} {r0 o0 : Nat} {x1 : Int32} (h0 : jm_tg H r0 = 13) : jm_w S 10 160 141 [.ref r0, .int x1] [.ref o0] H Q = jm_w S 10 160 149 [.ref r0, .int x1] [.int (jm_I H r0 15), .ref o0] H Q := (js1 at160_141 rfl rfl rfl).trans ((jsgI (H := H) at160_142 rv160g_161 (Or.inl rfl) h0 rfl).trans (js2 at160_145 rfl rfl))
theorem at160_148 : jm_at 160 148 = some (.iconst (-1)) := rfl
theorem u160_148 {S : Option (Nat × (Nat → Int32))} {H : jm_H} {Q : Option Value → jm_H → Prop} {r0 o0 : Nat} {x1 : Int32} : jm_w S 10 160 148 [.ref r0, .int x1] [.ref o0] H Q = jm_w S 10 160 149 [.ref r0, .int x1] [.int (-1 : Int32), .ref o0] H Q := jsci at160_148 rfl rfl
theorem at160_149 : jm_at 160 149 = some (.putfield 37) := rfl
theorem rv160p_37 : jm_rv 160 (.putfield 37) = (0, 12, 16, 0) := rfl
theorem at160_152 : jm_at 160 152 = some (.aload_n 0) := rfl
theorem at160_153 : jm_at 160 153 = some (.getfield 149) := rfl
theorem at160_156 : jm_at 160 156 = some (.ifCond .le 8) := rfl
theorem u160_149 {S : Option (Nat × (Nat → Int32))} {H : jm_H} {Q : Option Value → jm_H → Prop} {r0 o0 : Nat} {x1 p1 : Int32} (h0 : jm_tg H o0 = 13) (h1 : jm_tg H r0 = 13) : jm_w S 10 160 149 [.ref r0, .int x1] [.int p1, .ref o0] H Q = if (jm_I (jm_pI H o0 16 p1) r0 12) ≤ 0 then jm_w S 10 160 164 [.ref r0, .int x1] [] (jm_pI H o0 16 p1) Q else jm_w S 10 160 159 [.ref r0, .int x1] [] (jm_pI H o0 16 p1) Q := (jspI (H := H) at160_149 rv160p_37 rfl h0 rfl).trans ((js1 at160_152 rfl rfl rfl).trans ((jsgI (H := (jm_pI H o0 16 p1)) at160_153 rv160g_149 (Or.inl rfl) h1 rfl).trans (jsif (P := (jm_I (jm_pI H o0 16 p1) r0 12) ≤ 0) at160_156 rfl rfl)))
theorem at160_159 : jm_at 160 159 = some (.aload_n 0) := rfl
theorem at160_160 : jm_at 160 160 = some (.getfield 149) := rfl
theorem at160_163 : jm_at 160 163 = some (.ireturn) := rfl
theorem u160_159 {S : Option (Nat × (Nat → Int32))} {H : jm_H} {Q : Option Value → jm_H → Prop} {r0 : Nat} {x1 : Int32} (h0 : jm_tg H r0 = 13) : jm_w S 10 160 159 [.ref r0, .int x1] [] H Q = Q (some (.int (jm_I H r0 12))) H := (js1 at160_159 rfl rfl rfl).trans ((jsgI (H := H) at160_160 rv160g_149 (Or.inl rfl) h0 rfl).trans (jsret_i at160_163 rfl))
theorem at160_164 : jm_at 160 164 = some (.aload_n 0) := rfl
theorem at160_165 : jm_at 160 165 = some (.getfield 158) := rfl
theorem at160_168 : jm_at 160 168 = some (.ifCond .le 8) := rfl
theorem u160_164 {S : Option (Nat × (Nat → Int32))} {H : jm_H} {Q : Option Value → jm_H → Prop} {r0 : Nat} {x1 : Int32} (h0 : jm_tg H r0 = 13) : jm_w S 10 160 164 [.ref r0, .int x1] [] H Q = if (jm_I H r0 14) ≤ 0 then jm_w S 10 160 176 [.ref r0, .int x1] [] H Q else jm_w S 10 160 171 [.ref r0, .int x1] [] H Q := (js1 at160_164 rfl rfl rfl).trans ((jsgI (H := H) at160_165 rv160g_158 (Or.inl rfl) h0 rfl).trans (jsif (P := (jm_I H r0 14) ≤ 0) at160_168 rfl rfl))
theorem at160_171 : jm_at 160 171 = some (.aload_n 0) := rfl
theorem at160_172 : jm_at 160 172 = some (.getfield 158) := rfl
theorem at160_175 : jm_at 160 175 = some (.ireturn) := rfl
theorem u160_171 {S : Option (Nat × (Nat → Int32))} {H : jm_H} {Q : Option Value → jm_H → Prop} {r0 : Nat} {x1 : Int32} (h0 : jm_tg H r0 = 13) : jm_w S 10 160 171 [.ref r0, .int x1] [] H Q = Q (some (.int (jm_I H r0 14))) H := (js1 at160_171 rfl rfl rfl).trans ((jsgI (H := H) at160_172 rv160g_158 (Or.inl rfl) h0 rfl).trans (jsret_i at160_175 rfl))
theorem at160_176 : jm_at 160 176 = some (.aload_n 0) := rfl
theorem at160_177 : jm_at 160 177 = some (.invokevirtual 188) := rfl
theorem rv160i_188 : jm_rv 160 (.invokevirtual 188) = (2, 185, 0, 0) := rfl
theorem u160_176 {S : Option (Nat × (Nat → Int32))} {H : jm_H} {Q : Option Value → jm_H → Prop} {r0 : Nat} {x1 : Int32} (h0 : jm_tg H r0 = 13) : jm_w S 10 160 176 [.ref r0, .int x1] [] H Q = jm_c S 185 [.ref r0] H (fun v G => jm_w S 10 160 180 [.ref r0, .int x1] (v.toList ++ []) G Q) := (js1 at160_176 rfl rfl rfl).trans (jscall (H := H) (as := [.ref r0]) (q := []) at160_177 rfl rv160i_188 (jscutV rfl rfl rfl (Nat.le_of_ble_eq_true rfl) rfl h0) rfl (Nat.le_of_ble_eq_true rfl) rfl rfl)
theorem at160_180 : jm_at 160 180 = some (.iconst 0) := rfl
theorem at160_181 : jm_at 160 181 = some (.ireturn) := rfl
theorem u160_180 {S : Option (Nat × (Nat → Int32))} {H : jm_H} {Q : Option Value → jm_H → Prop} {r0 : Nat} {x1 : Int32} : jm_w S 10 160 180 [.ref r0, .int x1] [] H Q = Q (some (.int (0 : Int32))) H := (jsci at160_180 rfl rfl).trans (jsret_i at160_181 rfl)
theorem en160 {S : Option (Nat × (Nat → Int32))} {H : jm_H} {Q : Option Value → jm_H → Prop} {r0 : Nat} : jm_c S 160 [.ref r0] H Q = jm_w S 10 160 0 [.ref r0, .null] [] H Q := rfl
theorem at161_0 : jm_at 161 0 = some (.aload_n 0) := rfl
theorem at161_1 : jm_at 161 1 = some (.iconst 0) := rfl
theorem at161_2 : jm_at 161 2 = some (.putfield 124) := rfl
theorem rv161p_124 : jm_rv 161 (.putfield 124) = (0, 12, 10, 0) := rfl
theorem at161_5 : jm_at 161 5 = some (.iconst 0) := rfl
theorem at161_6 : jm_at 161 6 = some (.istore_n 1) := rfl
theorem u161_0 {S : Option (Nat × (Nat → Int32))} {H : jm_H} {Q : Option Value → jm_H → Prop} {r0 : Nat} (h0 : jm_tg H r0 = 13) : jm_w S 3 161 0 [.ref r0, .null, .null, .null, .null, .null, .null, .null] [] H Q = jm_w S 3 161 7 [.ref r0, .int (0 : Int32), .null, .null, .null, .null, .null, .null] [] (jm_pI H r0 10 (0 : Int32)) Q := (js1 at161_0 rfl rfl rfl).trans ((jsci at161_1 rfl rfl).trans ((jspI (H := H) at161_2 rv161p_124 rfl h0 rfl).trans ((jsci at161_5 rfl rfl).trans (js1 at161_6 rfl rfl rfl))))
theorem at161_7 : jm_at 161 7 = some (.aload_n 0) := rfl
theorem at161_8 : jm_at 161 8 = some (.getfield 124) := rfl
theorem rv161g_124 : jm_rv 161 (.getfield 124) = (0, 12, 10, 0) := rfl
theorem at161_11 : jm_at 161 11 = some (.sipush 400) := rfl
theorem at161_14 : jm_at 161 14 = some (.if_icmp .gt 272) := rfl
theorem u161_7 {S : Option (Nat × (Nat → Int32))} {H : jm_H} {Q : Option Value → jm_H → Prop} {r0 : Nat} {x1 : Int32} {w2 w3 w4 w6 w7 : Value} (h0 : jm_tg H r0 = 13) : jm_w S 3 161 7 [.ref r0, .int x1, w2, w3, w4, .null, w6, w7] [] H Q = if (400 : Int32) < (jm_I H r0 10) then jm_w S 3 161 286 [.ref r0, .int x1, w2, w3, w4, .null, w6, w7] [] H Q else jm_w S 3 161 17 [.ref r0, .int x1, w2, w3, w4, .null, w6, w7] [] H Q := (js1 at161_7 rfl rfl rfl).trans ((jsgI (H := H) at161_8 rv161g_124 (Or.inl rfl) h0 rfl).trans ((jscs at161_11 rfl rfl).trans (jsif (P := (400 : Int32) < (jm_I H r0 10)) at161_14 rfl rfl)))
theorem at161_17 : jm_at 161 17 = some (.aload_n 0) := rfl
theorem at161_18 : jm_at 161 18 = some (.iload_n 1) := rfl
theorem at161_19 : jm_at 161 19 = some (.invokevirtual 127) := rfl
theorem rv161i_127 : jm_rv 161 (.invokevirtual 127) = (2, 162, 0, 0) := rfl
theorem u161_17 {S : Option (Nat × (Nat → Int32))} {H : jm_H} {Q : Option Value → jm_H → Prop} {r0 : Nat} {x1 : Int32} {w2 w3 w4 w6 w7 : Value} (h0 : jm_tg H r0 = 13) : jm_w S 3 161 17 [.ref r0, .int x1, w2, w3, w4, .null, w6, w7] [] H Q = jm_c S 162 [.ref r0, .int x1] H (fun v G => jm_w S 3 161 22 [.ref r0, .int x1, w2, w3, w4, .null, w6, w7] (v.toList ++ []) G Q) := (js1 at161_17 rfl rfl rfl).trans ((js1 at161_18 rfl rfl rfl).trans (jscall (H := H) (as := [.ref r0, .int x1]) (q := []) at161_19 rfl rv161i_127 (jscutV rfl rfl rfl (Nat.le_of_ble_eq_true rfl) rfl h0) rfl (Nat.le_of_ble_eq_true rfl) rfl rfl))
theorem at161_22 : jm_at 161 22 = some (.istore_n 2) := rfl
theorem at161_23 : jm_at 161 23 = some (.iload_n 1) := rfl
theorem at161_24 : jm_at 161 24 = some (.aload_n 0) := rfl
theorem at161_25 : jm_at 161 25 = some (.getfield 115) := rfl
theorem rv161g_115 : jm_rv 161 (.getfield 115) = (0, 12, 4, 0) := rfl
theorem at161_28 : jm_at 161 28 = some (.if_icmp .lt 15) := rfl
theorem u161_22 {S : Option (Nat × (Nat → Int32))} {H : jm_H} {Q : Option Value → jm_H → Prop} {r0 : Nat} {x1 p0 : Int32} {w2 w3 w4 w6 w7 : Value} (h0 : jm_tg H r0 = 13) : jm_w S 3 161 22 [.ref r0, .int x1, w2, w3, w4, .null, w6, w7] [.int p0] H Q = if x1 < (jm_I H r0 4) then jm_w S 3 161 43 [.ref r0, .int x1, .int p0, w3, w4, .null, w6, w7] [] H Q else jm_w S 3 161 31 [.ref r0, .int x1, .int p0, w3, w4, .null, w6, w7] [] H Q := (js1 at161_22 rfl rfl rfl).trans ((js1 at161_23 rfl rfl rfl).trans ((js1 at161_24 rfl rfl rfl).trans ((jsgI (H := H) at161_25 rv161g_115 (Or.inl rfl) h0 rfl).trans (jsif (P := x1 < (jm_I H r0 4)) at161_28 rfl rfl))))
theorem at161_31 : jm_at 161 31 = some (.aload_n 0) := rfl
theorem at161_32 : jm_at 161 32 = some (.iconst 0) := rfl
theorem at161_33 : jm_at 161 33 = some (.aload_n 0) := rfl
theorem at161_34 : jm_at 161 34 = some (.getfield 115) := rfl
theorem at161_37 : jm_at 161 37 = some (.iconst 0) := rfl
theorem at161_38 : jm_at 161 38 = some (.lconst 0) := rfl
theorem at161_39 : jm_at 161 39 = some (.invokevirtual 131) := rfl
theorem rv161i_131 : jm_rv 161 (.invokevirtual 131) = (2, 163, 0, 0) := rfl
theorem u161_31 {S : Option (Nat × (Nat → Int32))} {H : jm_H} {Q : Option Value → jm_H → Prop} {r0 : Nat} {x1 x2 : Int32} {w3 w4 w6 w7 : Value} (h0 : jm_tg H r0 = 13) : jm_w S 3 161 31 [.ref r0, .int x1, .int x2, w3, w4, .null, w6, w7] [] H Q = jm_c S 163 [.ref r0, .int (0 : Int32), .int (jm_I H r0 4), .int (0 : Int32), .long (0 : Int64)] H (fun v G => jm_w S 3 161 42 [.ref r0, .int x1, .int x2, w3, w4, .null, w6, w7] (v.toList ++ []) G Q) := (js1 at161_31 rfl rfl rfl).trans ((jsci at161_32 rfl rfl).trans ((js1 at161_33 rfl rfl rfl).trans ((jsgI (H := H) at161_34 rv161g_115 (Or.inl rfl) h0 rfl).trans ((jsci at161_37 rfl rfl).trans ((jscl at161_38 rfl rfl).trans (jscall (H := H) (as := [.ref r0, .int (0 : Int32), .int (jm_I H r0 4), .int (0 : Int32), .long (0 : Int64)]) (q := []) at161_39 rfl rv161i_131 (jscutV rfl rfl rfl (Nat.le_of_ble_eq_true rfl) rfl h0) rfl (Nat.le_of_ble_eq_true rfl) rfl rfl))))))
theorem at161_42 : jm_at 161 42 = some (.return_) := rfl
theorem u161_42 {S : Option (Nat × (Nat → Int32))} {H : jm_H} {Q : Option Value → jm_H → Prop} {r0 : Nat} {x1 x2 : Int32} {w3 w4 w6 w7 : Value} : jm_w S 3 161 42 [.ref r0, .int x1, .int x2, w3, w4, .null, w6, w7] [] H Q = Q none H := jsret_v at161_42 rfl
theorem at161_43 : jm_at 161 43 = some (.iload_n 2) := rfl
theorem at161_44 : jm_at 161 44 = some (.bipush 9) := rfl
theorem at161_46 : jm_at 161 46 = some (.if_icmp .eq 21) := rfl
theorem u161_43 {S : Option (Nat × (Nat → Int32))} {H : jm_H} {Q : Option Value → jm_H → Prop} {r0 : Nat} {x1 x2 : Int32} {w3 w4 w6 w7 : Value} : jm_w S 3 161 43 [.ref r0, .int x1, .int x2, w3, w4, .null, w6, w7] [] H Q = if x2 = (9 : Int32) then jm_w S 3 161 67 [.ref r0, .int x1, .int x2, w3, w4, .null, w6, w7] [] H Q else jm_w S 3 161 49 [.ref r0, .int x1, .int x2, w3, w4, .null, w6, w7] [] H Q := (js1 at161_43 rfl rfl rfl).trans ((jscb at161_44 rfl rfl).trans (jsif (P := x2 = (9 : Int32)) at161_46 rfl rfl))
theorem at161_49 : jm_at 161 49 = some (.iload_n 2) := rfl
theorem at161_50 : jm_at 161 50 = some (.bipush 10) := rfl
theorem at161_52 : jm_at 161 52 = some (.if_icmp .eq 15) := rfl
theorem u161_49 {S : Option (Nat × (Nat → Int32))} {H : jm_H} {Q : Option Value → jm_H → Prop} {r0 : Nat} {x1 x2 : Int32} {w3 w4 w6 w7 : Value} : jm_w S 3 161 49 [.ref r0, .int x1, .int x2, w3, w4, .null, w6, w7] [] H Q = if x2 = (10 : Int32) then jm_w S 3 161 67 [.ref r0, .int x1, .int x2, w3, w4, .null, w6, w7] [] H Q else jm_w S 3 161 55 [.ref r0, .int x1, .int x2, w3, w4, .null, w6, w7] [] H Q := (js1 at161_49 rfl rfl rfl).trans ((jscb at161_50 rfl rfl).trans (jsif (P := x2 = (10 : Int32)) at161_52 rfl rfl))
theorem at161_55 : jm_at 161 55 = some (.iload_n 2) := rfl
theorem at161_56 : jm_at 161 56 = some (.bipush 13) := rfl
theorem at161_58 : jm_at 161 58 = some (.if_icmp .eq 9) := rfl
theorem u161_55 {S : Option (Nat × (Nat → Int32))} {H : jm_H} {Q : Option Value → jm_H → Prop} {r0 : Nat} {x1 x2 : Int32} {w3 w4 w6 w7 : Value} : jm_w S 3 161 55 [.ref r0, .int x1, .int x2, w3, w4, .null, w6, w7] [] H Q = if x2 = (13 : Int32) then jm_w S 3 161 67 [.ref r0, .int x1, .int x2, w3, w4, .null, w6, w7] [] H Q else jm_w S 3 161 61 [.ref r0, .int x1, .int x2, w3, w4, .null, w6, w7] [] H Q := (js1 at161_55 rfl rfl rfl).trans ((jscb at161_56 rfl rfl).trans (jsif (P := x2 = (13 : Int32)) at161_58 rfl rfl))
theorem at161_61 : jm_at 161 61 = some (.iload_n 2) := rfl
theorem at161_62 : jm_at 161 62 = some (.bipush 32) := rfl
theorem at161_64 : jm_at 161 64 = some (.if_icmp .ne 9) := rfl
theorem u161_61 {S : Option (Nat × (Nat → Int32))} {H : jm_H} {Q : Option Value → jm_H → Prop} {r0 : Nat} {x1 x2 : Int32} {w3 w4 w6 w7 : Value} : jm_w S 3 161 61 [.ref r0, .int x1, .int x2, w3, w4, .null, w6, w7] [] H Q = if ¬ x2 = (32 : Int32) then jm_w S 3 161 73 [.ref r0, .int x1, .int x2, w3, w4, .null, w6, w7] [] H Q else jm_w S 3 161 67 [.ref r0, .int x1, .int x2, w3, w4, .null, w6, w7] [] H Q := (js1 at161_61 rfl rfl rfl).trans ((jscb at161_62 rfl rfl).trans (jsif (P := ¬ x2 = (32 : Int32)) at161_64 rfl rfl))
theorem at161_67 : jm_at 161 67 = some (.iinc 1 1) := rfl
theorem at161_70 : jm_at 161 70 = some (.goto 213) := rfl
theorem u161_67 {S : Option (Nat × (Nat → Int32))} {H : jm_H} {Q : Option Value → jm_H → Prop} {r0 : Nat} {x1 x2 : Int32} {w3 w4 w6 w7 : Value} : jm_w S 3 161 67 [.ref r0, .int x1, .int x2, w3, w4, .null, w6, w7] [] H Q = jm_w S 3 161 283 [.ref r0, .int (x1 + 1), .int x2, w3, w4, .null, w6, w7] [] H Q := (jsinc at161_67 rfl rfl rfl).trans (js2 at161_70 rfl rfl)
theorem at161_73 : jm_at 161 73 = some (.iload_n 2) := rfl
theorem at161_74 : jm_at 161 74 = some (.invokestatic 135) := rfl
theorem rv161i_135 : jm_rv 161 (.invokestatic 135) = (1, 164, 0, 0) := rfl
theorem u161_73 {S : Option (Nat × (Nat → Int32))} {H : jm_H} {Q : Option Value → jm_H → Prop} {r0 : Nat} {x1 x2 : Int32} {w3 w4 w6 w7 : Value} : jm_w S 3 161 73 [.ref r0, .int x1, .int x2, w3, w4, .null, w6, w7] [] H Q = jm_c S 164 [.int x2] H (fun v G => jm_w S 3 161 77 [.ref r0, .int x1, .int x2, w3, w4, .null, w6, w7] (v.toList ++ []) G Q) := (js1 at161_73 rfl rfl rfl).trans (jscall (H := H) (as := [.int x2]) (q := []) at161_74 rfl rv161i_135 (jscut rfl rfl rfl (Nat.le_of_ble_eq_true rfl)) rfl (Nat.le_of_ble_eq_true rfl) rfl rfl)
theorem at161_77 : jm_at 161 77 = some (.ifCond .eq 118) := rfl
theorem u161_77 {S : Option (Nat × (Nat → Int32))} {H : jm_H} {Q : Option Value → jm_H → Prop} {r0 : Nat} {x1 x2 p0 : Int32} {w3 w4 w6 w7 : Value} : jm_w S 3 161 77 [.ref r0, .int x1, .int x2, w3, w4, .null, w6, w7] [.int p0] H Q = if p0 = 0 then jm_w S 3 161 195 [.ref r0, .int x1, .int x2, w3, w4, .null, w6, w7] [] H Q else jm_w S 3 161 80 [.ref r0, .int x1, .int x2, w3, w4, .null, w6, w7] [] H Q := jsif (P := p0 = 0) at161_77 rfl rfl
theorem at161_80 : jm_at 161 80 = some (.iconst 0) := rfl
theorem at161_81 : jm_at 161 81 = some (.istore_n 3) := rfl
theorem at161_82 : jm_at 161 82 = some (.lconst 0) := rfl
theorem at161_83 : jm_at 161 83 = some (.lstore 4) := rfl
theorem u161_80 {S : Option (Nat × (Nat → Int32))} {H : jm_H} {Q : Option Value → jm_H → Prop} {r0 : Nat} {x1 x2 : Int32} {w3 w4 w6 w7 : Value} : jm_w S 3 161 80 [.ref r0, .int x1, .int x2, w3, w4, .null, w6, w7] [] H Q = jm_w S 3 161 85 [.ref r0, .int x1, .int x2, .int (0 : Int32), .long (0 : Int64), .null, w6, w7] [] H Q := (jsci at161_80 rfl rfl).trans ((js1 at161_81 rfl rfl rfl).trans ((jscl at161_82 rfl rfl).trans (js1 at161_83 rfl rfl rfl)))
theorem at161_85 : jm_at 161 85 = some (.aload_n 0) := rfl
theorem at161_86 : jm_at 161 86 = some (.iload_n 1) := rfl
theorem at161_87 : jm_at 161 87 = some (.iload_n 3) := rfl
theorem at161_88 : jm_at 161 88 = some (.iadd) := rfl
theorem at161_89 : jm_at 161 89 = some (.invokevirtual 127) := rfl
theorem u161_85 {S : Option (Nat × (Nat → Int32))} {H : jm_H} {Q : Option Value → jm_H → Prop} {r0 : Nat} {x1 x2 x3 : Int32} {y4 : Int64} {w6 w7 : Value} (h0 : jm_tg H r0 = 13) : jm_w S 3 161 85 [.ref r0, .int x1, .int x2, .int x3, .long y4, .null, w6, w7] [] H Q = jm_c S 162 [.ref r0, .int (x1 + x3)] H (fun v G => jm_w S 3 161 92 [.ref r0, .int x1, .int x2, .int x3, .long y4, .null, w6, w7] (v.toList ++ []) G Q) := (js1 at161_85 rfl rfl rfl).trans ((js1 at161_86 rfl rfl rfl).trans ((js1 at161_87 rfl rfl rfl).trans ((js0 at161_88 rfl rfl rfl).trans (jscall (H := H) (as := [.ref r0, .int (x1 + x3)]) (q := []) at161_89 rfl rv161i_127 (jscutV rfl rfl rfl (Nat.le_of_ble_eq_true rfl) rfl h0) rfl (Nat.le_of_ble_eq_true rfl) rfl rfl))))
theorem at161_92 : jm_at 161 92 = some (.invokestatic 135) := rfl
theorem u161_92 {S : Option (Nat × (Nat → Int32))} {H : jm_H} {Q : Option Value → jm_H → Prop} {r0 : Nat} {x1 x2 x3 p0 : Int32} {y4 : Int64} {w6 w7 : Value} : jm_w S 3 161 92 [.ref r0, .int x1, .int x2, .int x3, .long y4, .null, w6, w7] [.int p0] H Q = jm_c S 164 [.int p0] H (fun v G => jm_w S 3 161 95 [.ref r0, .int x1, .int x2, .int x3, .long y4, .null, w6, w7] (v.toList ++ []) G Q) := jscall (H := H) (as := [.int p0]) (q := []) at161_92 rfl rv161i_135 (jscut rfl rfl rfl (Nat.le_of_ble_eq_true rfl)) rfl (Nat.le_of_ble_eq_true rfl) rfl rfl
theorem at161_95 : jm_at 161 95 = some (.ifCond .eq 29) := rfl
theorem u161_95 {S : Option (Nat × (Nat → Int32))} {H : jm_H} {Q : Option Value → jm_H → Prop} {r0 : Nat} {x1 x2 x3 p0 : Int32} {y4 : Int64} {w6 w7 : Value} : jm_w S 3 161 95 [.ref r0, .int x1, .int x2, .int x3, .long y4, .null, w6, w7] [.int p0] H Q = if p0 = 0 then jm_w S 3 161 124 [.ref r0, .int x1, .int x2, .int x3, .long y4, .null, w6, w7] [] H Q else jm_w S 3 161 98 [.ref r0, .int x1, .int x2, .int x3, .long y4, .null, w6, w7] [] H Q := jsif (P := p0 = 0) at161_95 rfl rfl
theorem at161_98 : jm_at 161 98 = some (.iload_n 3) := rfl
theorem at161_99 : jm_at 161 99 = some (.bipush 8) := rfl
theorem at161_101 : jm_at 161 101 = some (.if_icmp .ge 17) := rfl
theorem u161_98 {S : Option (Nat × (Nat → Int32))} {H : jm_H} {Q : Option Value → jm_H → Prop} {r0 : Nat} {x1 x2 x3 : Int32} {y4 : Int64} {w6 w7 : Value} : jm_w S 3 161 98 [.ref r0, .int x1, .int x2, .int x3, .long y4, .null, w6, w7] [] H Q = if (8 : Int32) ≤ x3 then jm_w S 3 161 118 [.ref r0, .int x1, .int x2, .int x3, .long y4, .null, w6, w7] [] H Q else jm_w S 3 161 104 [.ref r0, .int x1, .int x2, .int x3, .long y4, .null, w6, w7] [] H Q := (js1 at161_98 rfl rfl rfl).trans ((jscb at161_99 rfl rfl).trans (jsif (P := (8 : Int32) ≤ x3) at161_101 rfl rfl))
theorem at161_104 : jm_at 161 104 = some (.lload 4) := rfl
theorem at161_106 : jm_at 161 106 = some (.aload_n 0) := rfl
theorem at161_107 : jm_at 161 107 = some (.iload_n 1) := rfl
theorem at161_108 : jm_at 161 108 = some (.iload_n 3) := rfl
theorem at161_109 : jm_at 161 109 = some (.iadd) := rfl
theorem at161_110 : jm_at 161 110 = some (.invokevirtual 127) := rfl
theorem u161_104 {S : Option (Nat × (Nat → Int32))} {H : jm_H} {Q : Option Value → jm_H → Prop} {r0 : Nat} {x1 x2 x3 : Int32} {y4 : Int64} {w6 w7 : Value} (h0 : jm_tg H r0 = 13) : jm_w S 3 161 104 [.ref r0, .int x1, .int x2, .int x3, .long y4, .null, w6, w7] [] H Q = jm_c S 162 [.ref r0, .int (x1 + x3)] H (fun v G => jm_w S 3 161 113 [.ref r0, .int x1, .int x2, .int x3, .long y4, .null, w6, w7] (v.toList ++ [.long y4]) G Q) := (js1 at161_104 rfl rfl rfl).trans ((js1 at161_106 rfl rfl rfl).trans ((js1 at161_107 rfl rfl rfl).trans ((js1 at161_108 rfl rfl rfl).trans ((js0 at161_109 rfl rfl rfl).trans (jscall (H := H) (as := [.ref r0, .int (x1 + x3)]) (q := [.long y4]) at161_110 rfl rv161i_127 (jscutV rfl rfl rfl (Nat.le_of_ble_eq_true rfl) rfl h0) rfl (Nat.le_of_ble_eq_true rfl) rfl rfl)))))
theorem at161_113 : jm_at 161 113 = some (.invokestatic 120) := rfl
theorem rv161i_120 : jm_rv 161 (.invokestatic 120) = (1, 156, 0, 0) := rfl
theorem u161_113 {S : Option (Nat × (Nat → Int32))} {H : jm_H} {Q : Option Value → jm_H → Prop} {r0 : Nat} {x1 x2 x3 p1 : Int32} {y4 q0 : Int64} {w6 w7 : Value} : jm_w S 3 161 113 [.ref r0, .int x1, .int x2, .int x3, .long y4, .null, w6, w7] [.int p1, .long q0] H Q = jm_c S 156 [.long q0, .int p1] H (fun v G => jm_w S 3 161 116 [.ref r0, .int x1, .int x2, .int x3, .long y4, .null, w6, w7] (v.toList ++ []) G Q) := jscall (H := H) (as := [.long q0, .int p1]) (q := []) at161_113 rfl rv161i_120 (jscut rfl rfl rfl (Nat.le_of_ble_eq_true rfl)) rfl (Nat.le_of_ble_eq_true rfl) rfl rfl
theorem at161_116 : jm_at 161 116 = some (.lstore 4) := rfl
theorem u161_116 {S : Option (Nat × (Nat → Int32))} {H : jm_H} {Q : Option Value → jm_H → Prop} {r0 : Nat} {x1 x2 x3 : Int32} {y4 q0 : Int64} {w6 w7 : Value} : jm_w S 3 161 116 [.ref r0, .int x1, .int x2, .int x3, .long y4, .null, w6, w7] [.long q0] H Q = jm_w S 3 161 118 [.ref r0, .int x1, .int x2, .int x3, .long q0, .null, w6, w7] [] H Q := js1 at161_116 rfl rfl rfl
theorem at161_118 : jm_at 161 118 = some (.iinc 3 1) := rfl
theorem at161_121 : jm_at 161 121 = some (.goto (-36)) := rfl
theorem u161_118 {S : Option (Nat × (Nat → Int32))} {H : jm_H} {Q : Option Value → jm_H → Prop} {r0 : Nat} {x1 x2 x3 : Int32} {y4 : Int64} {w6 w7 : Value} : jm_w S 3 161 118 [.ref r0, .int x1, .int x2, .int x3, .long y4, .null, w6, w7] [] H Q = jm_w S 3 161 85 [.ref r0, .int x1, .int x2, .int (x3 + 1), .long y4, .null, w6, w7] [] H Q := (jsinc at161_118 rfl rfl rfl).trans (js2 at161_121 rfl rfl)
theorem at161_124 : jm_at 161 124 = some (.iload_n 3) := rfl
theorem at161_125 : jm_at 161 125 = some (.bipush 8) := rfl
theorem at161_127 : jm_at 161 127 = some (.if_icmp .le 7) := rfl
theorem u161_124 {S : Option (Nat × (Nat → Int32))} {H : jm_H} {Q : Option Value → jm_H → Prop} {r0 : Nat} {x1 x2 x3 : Int32} {y4 : Int64} {w6 w7 : Value} : jm_w S 3 161 124 [.ref r0, .int x1, .int x2, .int x3, .long y4, .null, w6, w7] [] H Q = if x3 ≤ (8 : Int32) then jm_w S 3 161 134 [.ref r0, .int x1, .int x2, .int x3, .long y4, .null, w6, w7] [] H Q else jm_w S 3 161 130 [.ref r0, .int x1, .int x2, .int x3, .long y4, .null, w6, w7] [] H Q := (js1 at161_124 rfl rfl rfl).trans ((jscb at161_125 rfl rfl).trans (jsif (P := x3 ≤ (8 : Int32)) at161_127 rfl rfl))
theorem at161_130 : jm_at 161 130 = some (.iconst 3) := rfl
theorem at161_131 : jm_at 161 131 = some (.goto 4) := rfl
theorem u161_130 {S : Option (Nat × (Nat → Int32))} {H : jm_H} {Q : Option Value → jm_H → Prop} {r0 : Nat} {x1 x2 x3 : Int32} {y4 : Int64} {w6 w7 : Value} : jm_w S 3 161 130 [.ref r0, .int x1, .int x2, .int x3, .long y4, .null, w6, w7] [] H Q = jm_w S 3 161 135 [.ref r0, .int x1, .int x2, .int x3, .long y4, .null, w6, w7] [.int (3 : Int32)] H Q := (jsci at161_130 rfl rfl).trans (js2 at161_131 rfl rfl)
theorem at161_134 : jm_at 161 134 = some (.iconst 1) := rfl
theorem u161_134 {S : Option (Nat × (Nat → Int32))} {H : jm_H} {Q : Option Value → jm_H → Prop} {r0 : Nat} {x1 x2 x3 : Int32} {y4 : Int64} {w6 w7 : Value} : jm_w S 3 161 134 [.ref r0, .int x1, .int x2, .int x3, .long y4, .null, w6, w7] [] H Q = jm_w S 3 161 135 [.ref r0, .int x1, .int x2, .int x3, .long y4, .null, w6, w7] [.int (1 : Int32)] H Q := jsci at161_134 rfl rfl
theorem at161_135 : jm_at 161 135 = some (.istore 6) := rfl
theorem at161_137 : jm_at 161 137 = some (.iload_n 3) := rfl
theorem at161_138 : jm_at 161 138 = some (.bipush 8) := rfl
theorem at161_140 : jm_at 161 140 = some (.if_icmp .gt 38) := rfl
theorem u161_135 {S : Option (Nat × (Nat → Int32))} {H : jm_H} {Q : Option Value → jm_H → Prop} {r0 : Nat} {x1 x2 x3 p0 : Int32} {y4 : Int64} {w6 w7 : Value} : jm_w S 3 161 135 [.ref r0, .int x1, .int x2, .int x3, .long y4, .null, w6, w7] [.int p0] H Q = if (8 : Int32) < x3 then jm_w S 3 161 178 [.ref r0, .int x1, .int x2, .int x3, .long y4, .null, .int p0, w7] [] H Q else jm_w S 3 161 143 [.ref r0, .int x1, .int x2, .int x3, .long y4, .null, .int p0, w7] [] H Q := (js1 at161_135 rfl rfl rfl).trans ((js1 at161_137 rfl rfl rfl).trans ((jscb at161_138 rfl rfl).trans (jsif (P := (8 : Int32) < x3) at161_140 rfl rfl)))
theorem at161_143 : jm_at 161 143 = some (.iconst 0) := rfl
theorem at161_144 : jm_at 161 144 = some (.istore 7) := rfl
theorem u161_143 {S : Option (Nat × (Nat → Int32))} {H : jm_H} {Q : Option Value → jm_H → Prop} {r0 : Nat} {x1 x2 x3 x6 : Int32} {y4 : Int64} {w7 : Value} : jm_w S 3 161 143 [.ref r0, .int x1, .int x2, .int x3, .long y4, .null, .int x6, w7] [] H Q = jm_w S 3 161 146 [.ref r0, .int x1, .int x2, .int x3, .long y4, .null, .int x6, .int (0 : Int32)] [] H Q := (jsci at161_143 rfl rfl).trans (js1 at161_144 rfl rfl rfl)
theorem at161_146 : jm_at 161 146 = some (.iload 7) := rfl
theorem at161_148 : jm_at 161 148 = some (.iconst 4) := rfl
theorem at161_149 : jm_at 161 149 = some (.if_icmp .ge 29) := rfl
theorem u161_146 {S : Option (Nat × (Nat → Int32))} {H : jm_H} {Q : Option Value → jm_H → Prop} {r0 : Nat} {x1 x2 x3 x6 x7 : Int32} {y4 : Int64} : jm_w S 3 161 146 [.ref r0, .int x1, .int x2, .int x3, .long y4, .null, .int x6, .int x7] [] H Q = if (4 : Int32) ≤ x7 then jm_w S 3 161 178 [.ref r0, .int x1, .int x2, .int x3, .long y4, .null, .int x6, .int x7] [] H Q else jm_w S 3 161 152 [.ref r0, .int x1, .int x2, .int x3, .long y4, .null, .int x6, .int x7] [] H Q := (js1 at161_146 rfl rfl rfl).trans ((jsci at161_148 rfl rfl).trans (jsif (P := (4 : Int32) ≤ x7) at161_149 rfl rfl))
theorem at161_152 : jm_at 161 152 = some (.aload_n 0) := rfl
theorem at161_153 : jm_at 161 153 = some (.getfield 34) := rfl
theorem rv161g_34 : jm_rv 161 (.getfield 34) = (0, 12, 9, 0) := rfl
theorem at161_156 : jm_at 161 156 = some (.iload 7) := rfl
theorem at161_158 : jm_at 161 158 = some (.laload) := rfl
theorem at161_159 : jm_at 161 159 = some (.lload 4) := rfl
theorem at161_161 : jm_at 161 161 = some (.lcmp) := rfl
theorem at161_162 : jm_at 161 162 = some (.ifCond .ne 10) := rfl
theorem u161_152 {S : Option (Nat × (Nat → Int32))} {H : jm_H} {Q : Option Value → jm_H → Prop} {r0 : Nat} {x1 x2 x3 x6 x7 : Int32} {y4 : Int64} (h0 : jm_tg H r0 = 13) (h1 : ¬ jm_R H r0 9 = 0) (h2 : ¬ (x7 < 0 ∨ jm_ln H (jm_R H r0 9) ≤ Int32.toNatClampNeg x7)) (h3 : jm_tg H (jm_R H r0 9) = 101) : jm_w S 3 161 152 [.ref r0, .int x1, .int x2, .int x3, .long y4, .null, .int x6, .int x7] [] H Q = if ¬ (lg_cmp (jm_L H (jm_R H r0 9) (Int32.toNatClampNeg x7)) y4) = 0 then jm_w S 3 161 172 [.ref r0, .int x1, .int x2, .int x3, .long y4, .null, .int x6, .int x7] [] H Q else jm_w S 3 161 165 [.ref r0, .int x1, .int x2, .int x3, .long y4, .null, .int x6, .int x7] [] H Q := (js1 at161_152 rfl rfl rfl).trans ((jsgR (H := H) at161_153 rv161g_34 rfl h0 h1 rfl).trans ((js1 at161_156 rfl rfl rfl).trans ((jslal (H := H) at161_158 h3 h2 rfl).trans ((js1 at161_159 rfl rfl rfl).trans ((js0 at161_161 rfl rfl rfl).trans (jsif (P := ¬ (lg_cmp (jm_L H (jm_R H r0 9) (Int32.toNatClampNeg x7)) y4) = 0) at161_162 rfl rfl))))))
theorem at161_165 : jm_at 161 165 = some (.bipush 20) := rfl
theorem at161_167 : jm_at 161 167 = some (.iload 7) := rfl
theorem at161_169 : jm_at 161 169 = some (.iadd) := rfl
theorem at161_170 : jm_at 161 170 = some (.istore 6) := rfl
theorem u161_165 {S : Option (Nat × (Nat → Int32))} {H : jm_H} {Q : Option Value → jm_H → Prop} {r0 : Nat} {x1 x2 x3 x6 x7 : Int32} {y4 : Int64} : jm_w S 3 161 165 [.ref r0, .int x1, .int x2, .int x3, .long y4, .null, .int x6, .int x7] [] H Q = jm_w S 3 161 172 [.ref r0, .int x1, .int x2, .int x3, .long y4, .null, .int ((20 : Int32) + x7), .int x7] [] H Q := (jscb at161_165 rfl rfl).trans ((js1 at161_167 rfl rfl rfl).trans ((js0 at161_169 rfl rfl rfl).trans (js1 at161_170 rfl rfl rfl)))
theorem at161_172 : jm_at 161 172 = some (.iinc 7 1) := rfl
theorem at161_175 : jm_at 161 175 = some (.goto (-29)) := rfl
theorem u161_172 {S : Option (Nat × (Nat → Int32))} {H : jm_H} {Q : Option Value → jm_H → Prop} {r0 : Nat} {x1 x2 x3 x6 x7 : Int32} {y4 : Int64} : jm_w S 3 161 172 [.ref r0, .int x1, .int x2, .int x3, .long y4, .null, .int x6, .int x7] [] H Q = jm_w S 3 161 146 [.ref r0, .int x1, .int x2, .int x3, .long y4, .null, .int x6, .int (x7 + 1)] [] H Q := (jsinc at161_172 rfl rfl rfl).trans (js2 at161_175 rfl rfl)
theorem at161_178 : jm_at 161 178 = some (.aload_n 0) := rfl
theorem at161_179 : jm_at 161 179 = some (.iload 6) := rfl
theorem at161_181 : jm_at 161 181 = some (.iload_n 1) := rfl
theorem at161_182 : jm_at 161 182 = some (.iconst 0) := rfl
theorem at161_183 : jm_at 161 183 = some (.lload 4) := rfl
theorem at161_185 : jm_at 161 185 = some (.invokevirtual 131) := rfl
theorem u161_178 {S : Option (Nat × (Nat → Int32))} {H : jm_H} {Q : Option Value → jm_H → Prop} {r0 : Nat} {x1 x2 x3 x6 : Int32} {y4 : Int64} {w7 : Value} (h0 : jm_tg H r0 = 13) : jm_w S 3 161 178 [.ref r0, .int x1, .int x2, .int x3, .long y4, .null, .int x6, w7] [] H Q = jm_c S 163 [.ref r0, .int x6, .int x1, .int (0 : Int32), .long y4] H (fun v G => jm_w S 3 161 188 [.ref r0, .int x1, .int x2, .int x3, .long y4, .null, .int x6, w7] (v.toList ++ []) G Q) := (js1 at161_178 rfl rfl rfl).trans ((js1 at161_179 rfl rfl rfl).trans ((js1 at161_181 rfl rfl rfl).trans ((jsci at161_182 rfl rfl).trans ((js1 at161_183 rfl rfl rfl).trans (jscall (H := H) (as := [.ref r0, .int x6, .int x1, .int (0 : Int32), .long y4]) (q := []) at161_185 rfl rv161i_131 (jscutV rfl rfl rfl (Nat.le_of_ble_eq_true rfl) rfl h0) rfl (Nat.le_of_ble_eq_true rfl) rfl rfl)))))
theorem at161_188 : jm_at 161 188 = some (.iload_n 1) := rfl
theorem at161_189 : jm_at 161 189 = some (.iload_n 3) := rfl
theorem at161_190 : jm_at 161 190 = some (.iadd) := rfl
theorem at161_191 : jm_at 161 191 = some (.istore_n 1) := rfl
theorem at161_192 : jm_at 161 192 = some (.goto 91) := rfl
theorem u161_188 {S : Option (Nat × (Nat → Int32))} {H : jm_H} {Q : Option Value → jm_H → Prop} {r0 : Nat} {x1 x2 x3 x6 : Int32} {y4 : Int64} {w7 : Value} : jm_w S 3 161 188 [.ref r0, .int x1, .int x2, .int x3, .long y4, .null, .int x6, w7] [] H Q = jm_w S 3 161 283 [.ref r0, .int (x1 + x3), .int x2, .int x3, .long y4, .null, .int x6, w7] [] H Q := (js1 at161_188 rfl rfl rfl).trans ((js1 at161_189 rfl rfl rfl).trans ((js0 at161_190 rfl rfl rfl).trans ((js1 at161_191 rfl rfl rfl).trans (js2 at161_192 rfl rfl))))
theorem at161_195 : jm_at 161 195 = some (.iload_n 2) := rfl
theorem at161_196 : jm_at 161 196 = some (.invokestatic 139) := rfl
theorem rv161i_139 : jm_rv 161 (.invokestatic 139) = (1, 165, 0, 0) := rfl
theorem u161_195 {S : Option (Nat × (Nat → Int32))} {H : jm_H} {Q : Option Value → jm_H → Prop} {r0 : Nat} {x1 x2 : Int32} {w3 w4 w6 w7 : Value} : jm_w S 3 161 195 [.ref r0, .int x1, .int x2, w3, w4, .null, w6, w7] [] H Q = jm_c S 165 [.int x2] H (fun v G => jm_w S 3 161 199 [.ref r0, .int x1, .int x2, w3, w4, .null, w6, w7] (v.toList ++ []) G Q) := (js1 at161_195 rfl rfl rfl).trans (jscall (H := H) (as := [.int x2]) (q := []) at161_196 rfl rv161i_139 (jscut rfl rfl rfl (Nat.le_of_ble_eq_true rfl)) rfl (Nat.le_of_ble_eq_true rfl) rfl rfl)
theorem at161_199 : jm_at 161 199 = some (.ifCond .eq 75) := rfl
theorem u161_199 {S : Option (Nat × (Nat → Int32))} {H : jm_H} {Q : Option Value → jm_H → Prop} {r0 : Nat} {x1 x2 p0 : Int32} {w3 w4 w6 w7 : Value} : jm_w S 3 161 199 [.ref r0, .int x1, .int x2, w3, w4, .null, w6, w7] [.int p0] H Q = if p0 = 0 then jm_w S 3 161 274 [.ref r0, .int x1, .int x2, w3, w4, .null, w6, w7] [] H Q else jm_w S 3 161 202 [.ref r0, .int x1, .int x2, w3, w4, .null, w6, w7] [] H Q := jsif (P := p0 = 0) at161_199 rfl rfl
theorem at161_202 : jm_at 161 202 = some (.iconst 0) := rfl
theorem at161_203 : jm_at 161 203 = some (.istore_n 3) := rfl
theorem at161_204 : jm_at 161 204 = some (.iconst 0) := rfl
theorem at161_205 : jm_at 161 205 = some (.istore 4) := rfl
theorem u161_202 {S : Option (Nat × (Nat → Int32))} {H : jm_H} {Q : Option Value → jm_H → Prop} {r0 : Nat} {x1 x2 : Int32} {w3 w4 w6 w7 : Value} : jm_w S 3 161 202 [.ref r0, .int x1, .int x2, w3, w4, .null, w6, w7] [] H Q = jm_w S 3 161 207 [.ref r0, .int x1, .int x2, .int (0 : Int32), .int (0 : Int32), .null, w6, w7] [] H Q := (jsci at161_202 rfl rfl).trans ((js1 at161_203 rfl rfl rfl).trans ((jsci at161_204 rfl rfl).trans (js1 at161_205 rfl rfl rfl)))
theorem at161_207 : jm_at 161 207 = some (.aload_n 0) := rfl
theorem at161_208 : jm_at 161 208 = some (.iload_n 1) := rfl
theorem at161_209 : jm_at 161 209 = some (.iload_n 3) := rfl
theorem at161_210 : jm_at 161 210 = some (.iadd) := rfl
theorem at161_211 : jm_at 161 211 = some (.invokevirtual 127) := rfl
theorem u161_207 {S : Option (Nat × (Nat → Int32))} {H : jm_H} {Q : Option Value → jm_H → Prop} {r0 : Nat} {x1 x2 x3 x4 : Int32} {w6 w7 : Value} (h0 : jm_tg H r0 = 13) : jm_w S 3 161 207 [.ref r0, .int x1, .int x2, .int x3, .int x4, .null, w6, w7] [] H Q = jm_c S 162 [.ref r0, .int (x1 + x3)] H (fun v G => jm_w S 3 161 214 [.ref r0, .int x1, .int x2, .int x3, .int x4, .null, w6, w7] (v.toList ++ []) G Q) := (js1 at161_207 rfl rfl rfl).trans ((js1 at161_208 rfl rfl rfl).trans ((js1 at161_209 rfl rfl rfl).trans ((js0 at161_210 rfl rfl rfl).trans (jscall (H := H) (as := [.ref r0, .int (x1 + x3)]) (q := []) at161_211 rfl rv161i_127 (jscutV rfl rfl rfl (Nat.le_of_ble_eq_true rfl) rfl h0) rfl (Nat.le_of_ble_eq_true rfl) rfl rfl))))
theorem at161_214 : jm_at 161 214 = some (.invokestatic 139) := rfl
theorem u161_214 {S : Option (Nat × (Nat → Int32))} {H : jm_H} {Q : Option Value → jm_H → Prop} {r0 : Nat} {x1 x2 x3 x4 p0 : Int32} {w6 w7 : Value} : jm_w S 3 161 214 [.ref r0, .int x1, .int x2, .int x3, .int x4, .null, w6, w7] [.int p0] H Q = jm_c S 165 [.int p0] H (fun v G => jm_w S 3 161 217 [.ref r0, .int x1, .int x2, .int x3, .int x4, .null, w6, w7] (v.toList ++ []) G Q) := jscall (H := H) (as := [.int p0]) (q := []) at161_214 rfl rv161i_139 (jscut rfl rfl rfl (Nat.le_of_ble_eq_true rfl)) rfl (Nat.le_of_ble_eq_true rfl) rfl rfl
theorem at161_217 : jm_at 161 217 = some (.ifCond .eq 32) := rfl
theorem u161_217 {S : Option (Nat × (Nat → Int32))} {H : jm_H} {Q : Option Value → jm_H → Prop} {r0 : Nat} {x1 x2 x3 x4 p0 : Int32} {w6 w7 : Value} : jm_w S 3 161 217 [.ref r0, .int x1, .int x2, .int x3, .int x4, .null, w6, w7] [.int p0] H Q = if p0 = 0 then jm_w S 3 161 249 [.ref r0, .int x1, .int x2, .int x3, .int x4, .null, w6, w7] [] H Q else jm_w S 3 161 220 [.ref r0, .int x1, .int x2, .int x3, .int x4, .null, w6, w7] [] H Q := jsif (P := p0 = 0) at161_217 rfl rfl
theorem at161_220 : jm_at 161 220 = some (.iload_n 3) := rfl
theorem at161_221 : jm_at 161 221 = some (.iconst 4) := rfl
theorem at161_222 : jm_at 161 222 = some (.if_icmp .ge 21) := rfl
theorem u161_220 {S : Option (Nat × (Nat → Int32))} {H : jm_H} {Q : Option Value → jm_H → Prop} {r0 : Nat} {x1 x2 x3 x4 : Int32} {w6 w7 : Value} : jm_w S 3 161 220 [.ref r0, .int x1, .int x2, .int x3, .int x4, .null, w6, w7] [] H Q = if (4 : Int32) ≤ x3 then jm_w S 3 161 243 [.ref r0, .int x1, .int x2, .int x3, .int x4, .null, w6, w7] [] H Q else jm_w S 3 161 225 [.ref r0, .int x1, .int x2, .int x3, .int x4, .null, w6, w7] [] H Q := (js1 at161_220 rfl rfl rfl).trans ((jsci at161_221 rfl rfl).trans (jsif (P := (4 : Int32) ≤ x3) at161_222 rfl rfl))
theorem at161_225 : jm_at 161 225 = some (.bipush 10) := rfl
theorem at161_227 : jm_at 161 227 = some (.iload 4) := rfl
theorem at161_229 : jm_at 161 229 = some (.imul) := rfl
theorem at161_230 : jm_at 161 230 = some (.aload_n 0) := rfl
theorem at161_231 : jm_at 161 231 = some (.iload_n 1) := rfl
theorem at161_232 : jm_at 161 232 = some (.iload_n 3) := rfl
theorem at161_233 : jm_at 161 233 = some (.iadd) := rfl
theorem at161_234 : jm_at 161 234 = some (.invokevirtual 127) := rfl
theorem u161_225 {S : Option (Nat × (Nat → Int32))} {H : jm_H} {Q : Option Value → jm_H → Prop} {r0 : Nat} {x1 x2 x3 x4 : Int32} {w6 w7 : Value} (h0 : jm_tg H r0 = 13) : jm_w S 3 161 225 [.ref r0, .int x1, .int x2, .int x3, .int x4, .null, w6, w7] [] H Q = jm_c S 162 [.ref r0, .int (x1 + x3)] H (fun v G => jm_w S 3 161 237 [.ref r0, .int x1, .int x2, .int x3, .int x4, .null, w6, w7] (v.toList ++ [.int ((10 : Int32) * x4)]) G Q) := (jscb at161_225 rfl rfl).trans ((js1 at161_227 rfl rfl rfl).trans ((js0 at161_229 rfl rfl rfl).trans ((js1 at161_230 rfl rfl rfl).trans ((js1 at161_231 rfl rfl rfl).trans ((js1 at161_232 rfl rfl rfl).trans ((js0 at161_233 rfl rfl rfl).trans (jscall (H := H) (as := [.ref r0, .int (x1 + x3)]) (q := [.int ((10 : Int32) * x4)]) at161_234 rfl rv161i_127 (jscutV rfl rfl rfl (Nat.le_of_ble_eq_true rfl) rfl h0) rfl (Nat.le_of_ble_eq_true rfl) rfl rfl)))))))
theorem at161_237 : jm_at 161 237 = some (.iadd) := rfl
theorem at161_238 : jm_at 161 238 = some (.bipush 48) := rfl
theorem at161_240 : jm_at 161 240 = some (.isub) := rfl
theorem at161_241 : jm_at 161 241 = some (.istore 4) := rfl
theorem u161_237 {S : Option (Nat × (Nat → Int32))} {H : jm_H} {Q : Option Value → jm_H → Prop} {r0 : Nat} {x1 x2 x3 x4 p0 p1 : Int32} {w6 w7 : Value} : jm_w S 3 161 237 [.ref r0, .int x1, .int x2, .int x3, .int x4, .null, w6, w7] [.int p1, .int p0] H Q = jm_w S 3 161 243 [.ref r0, .int x1, .int x2, .int x3, .int ((p0 + p1) - (48 : Int32)), .null, w6, w7] [] H Q := (js0 at161_237 rfl rfl rfl).trans ((jscb at161_238 rfl rfl).trans ((js0 at161_240 rfl rfl rfl).trans (js1 at161_241 rfl rfl rfl)))
theorem at161_243 : jm_at 161 243 = some (.iinc 3 1) := rfl
theorem at161_246 : jm_at 161 246 = some (.goto (-39)) := rfl
theorem u161_243 {S : Option (Nat × (Nat → Int32))} {H : jm_H} {Q : Option Value → jm_H → Prop} {r0 : Nat} {x1 x2 x3 x4 : Int32} {w6 w7 : Value} : jm_w S 3 161 243 [.ref r0, .int x1, .int x2, .int x3, .int x4, .null, w6, w7] [] H Q = jm_w S 3 161 207 [.ref r0, .int x1, .int x2, .int (x3 + 1), .int x4, .null, w6, w7] [] H Q := (jsinc at161_243 rfl rfl rfl).trans (js2 at161_246 rfl rfl)
theorem at161_249 : jm_at 161 249 = some (.aload_n 0) := rfl
theorem at161_250 : jm_at 161 250 = some (.iload_n 3) := rfl
theorem at161_251 : jm_at 161 251 = some (.iconst 4) := rfl
theorem at161_252 : jm_at 161 252 = some (.if_icmp .le 7) := rfl
theorem u161_249 {S : Option (Nat × (Nat → Int32))} {H : jm_H} {Q : Option Value → jm_H → Prop} {r0 : Nat} {x1 x2 x3 x4 : Int32} {w6 w7 : Value} : jm_w S 3 161 249 [.ref r0, .int x1, .int x2, .int x3, .int x4, .null, w6, w7] [] H Q = if x3 ≤ (4 : Int32) then jm_w S 3 161 259 [.ref r0, .int x1, .int x2, .int x3, .int x4, .null, w6, w7] [.ref r0] H Q else jm_w S 3 161 255 [.ref r0, .int x1, .int x2, .int x3, .int x4, .null, w6, w7] [.ref r0] H Q := (js1 at161_249 rfl rfl rfl).trans ((js1 at161_250 rfl rfl rfl).trans ((jsci at161_251 rfl rfl).trans (jsif (P := x3 ≤ (4 : Int32)) at161_252 rfl rfl)))
theorem at161_255 : jm_at 161 255 = some (.iconst 3) := rfl
theorem at161_256 : jm_at 161 256 = some (.goto 4) := rfl
theorem u161_255 {S : Option (Nat × (Nat → Int32))} {H : jm_H} {Q : Option Value → jm_H → Prop} {r0 o0 : Nat} {x1 x2 x3 x4 : Int32} {w6 w7 : Value} : jm_w S 3 161 255 [.ref r0, .int x1, .int x2, .int x3, .int x4, .null, w6, w7] [.ref o0] H Q = jm_w S 3 161 260 [.ref r0, .int x1, .int x2, .int x3, .int x4, .null, w6, w7] [.int (3 : Int32), .ref o0] H Q := (jsci at161_255 rfl rfl).trans (js2 at161_256 rfl rfl)
theorem at161_259 : jm_at 161 259 = some (.iconst 2) := rfl
theorem u161_259 {S : Option (Nat × (Nat → Int32))} {H : jm_H} {Q : Option Value → jm_H → Prop} {r0 o0 : Nat} {x1 x2 x3 x4 : Int32} {w6 w7 : Value} : jm_w S 3 161 259 [.ref r0, .int x1, .int x2, .int x3, .int x4, .null, w6, w7] [.ref o0] H Q = jm_w S 3 161 260 [.ref r0, .int x1, .int x2, .int x3, .int x4, .null, w6, w7] [.int (2 : Int32), .ref o0] H Q := jsci at161_259 rfl rfl
theorem at161_260 : jm_at 161 260 = some (.iload_n 1) := rfl
theorem at161_261 : jm_at 161 261 = some (.iload 4) := rfl
theorem at161_263 : jm_at 161 263 = some (.lconst 0) := rfl
theorem at161_264 : jm_at 161 264 = some (.invokevirtual 131) := rfl
theorem u161_260 {S : Option (Nat × (Nat → Int32))} {H : jm_H} {Q : Option Value → jm_H → Prop} {r0 o0 : Nat} {x1 x2 x3 x4 p1 : Int32} {w6 w7 : Value} (h0 : jm_tg H o0 = 13) : jm_w S 3 161 260 [.ref r0, .int x1, .int x2, .int x3, .int x4, .null, w6, w7] [.int p1, .ref o0] H Q = jm_c S 163 [.ref o0, .int p1, .int x1, .int x4, .long (0 : Int64)] H (fun v G => jm_w S 3 161 267 [.ref r0, .int x1, .int x2, .int x3, .int x4, .null, w6, w7] (v.toList ++ []) G Q) := (js1 at161_260 rfl rfl rfl).trans ((js1 at161_261 rfl rfl rfl).trans ((jscl at161_263 rfl rfl).trans (jscall (H := H) (as := [.ref o0, .int p1, .int x1, .int x4, .long (0 : Int64)]) (q := []) at161_264 rfl rv161i_131 (jscutV rfl rfl rfl (Nat.le_of_ble_eq_true rfl) rfl h0) rfl (Nat.le_of_ble_eq_true rfl) rfl rfl)))
theorem at161_267 : jm_at 161 267 = some (.iload_n 1) := rfl
theorem at161_268 : jm_at 161 268 = some (.iload_n 3) := rfl
theorem at161_269 : jm_at 161 269 = some (.iadd) := rfl
theorem at161_270 : jm_at 161 270 = some (.istore_n 1) := rfl
theorem at161_271 : jm_at 161 271 = some (.goto 12) := rfl
theorem u161_267 {S : Option (Nat × (Nat → Int32))} {H : jm_H} {Q : Option Value → jm_H → Prop} {r0 : Nat} {x1 x2 x3 x4 : Int32} {w6 w7 : Value} : jm_w S 3 161 267 [.ref r0, .int x1, .int x2, .int x3, .int x4, .null, w6, w7] [] H Q = jm_w S 3 161 283 [.ref r0, .int (x1 + x3), .int x2, .int x3, .int x4, .null, w6, w7] [] H Q := (js1 at161_267 rfl rfl rfl).trans ((js1 at161_268 rfl rfl rfl).trans ((js0 at161_269 rfl rfl rfl).trans ((js1 at161_270 rfl rfl rfl).trans (js2 at161_271 rfl rfl))))
theorem at161_274 : jm_at 161 274 = some (.iload_n 1) := rfl
theorem at161_275 : jm_at 161 275 = some (.aload_n 0) := rfl
theorem at161_276 : jm_at 161 276 = some (.iload_n 1) := rfl
theorem at161_277 : jm_at 161 277 = some (.iload_n 2) := rfl
theorem at161_278 : jm_at 161 278 = some (.invokevirtual 142) := rfl
theorem rv161i_142 : jm_rv 161 (.invokevirtual 142) = (2, 166, 0, 0) := rfl
theorem u161_274 {S : Option (Nat × (Nat → Int32))} {H : jm_H} {Q : Option Value → jm_H → Prop} {r0 : Nat} {x1 x2 : Int32} {w3 w4 w6 w7 : Value} (h0 : jm_tg H r0 = 13) : jm_w S 3 161 274 [.ref r0, .int x1, .int x2, w3, w4, .null, w6, w7] [] H Q = jm_c S 166 [.ref r0, .int x1, .int x2] H (fun v G => jm_w S 3 161 281 [.ref r0, .int x1, .int x2, w3, w4, .null, w6, w7] (v.toList ++ [.int x1]) G Q) := (js1 at161_274 rfl rfl rfl).trans ((js1 at161_275 rfl rfl rfl).trans ((js1 at161_276 rfl rfl rfl).trans ((js1 at161_277 rfl rfl rfl).trans (jscall (H := H) (as := [.ref r0, .int x1, .int x2]) (q := [.int x1]) at161_278 rfl rv161i_142 (jscutV rfl rfl rfl (Nat.le_of_ble_eq_true rfl) rfl h0) rfl (Nat.le_of_ble_eq_true rfl) rfl rfl))))
theorem at161_281 : jm_at 161 281 = some (.iadd) := rfl
theorem at161_282 : jm_at 161 282 = some (.istore_n 1) := rfl
theorem u161_281 {S : Option (Nat × (Nat → Int32))} {H : jm_H} {Q : Option Value → jm_H → Prop} {r0 : Nat} {x1 x2 p0 p1 : Int32} {w3 w4 w6 w7 : Value} : jm_w S 3 161 281 [.ref r0, .int x1, .int x2, w3, w4, .null, w6, w7] [.int p1, .int p0] H Q = jm_w S 3 161 283 [.ref r0, .int (p0 + p1), .int x2, w3, w4, .null, w6, w7] [] H Q := (js0 at161_281 rfl rfl rfl).trans (js1 at161_282 rfl rfl rfl)
theorem at161_283 : jm_at 161 283 = some (.goto (-276)) := rfl
theorem u161_283 {S : Option (Nat × (Nat → Int32))} {H : jm_H} {Q : Option Value → jm_H → Prop} {r0 : Nat} {x1 x2 : Int32} {w3 w4 w6 w7 : Value} : jm_w S 3 161 283 [.ref r0, .int x1, .int x2, w3, w4, .null, w6, w7] [] H Q = jm_w S 3 161 7 [.ref r0, .int x1, .int x2, w3, w4, .null, w6, w7] [] H Q := js2 at161_283 rfl rfl
theorem at161_286 : jm_at 161 286 = some (.return_) := rfl
theorem u161_286 {S : Option (Nat × (Nat → Int32))} {H : jm_H} {Q : Option Value → jm_H → Prop} {r0 : Nat} {x1 : Int32} {w2 w3 w4 w6 w7 : Value} : jm_w S 3 161 286 [.ref r0, .int x1, w2, w3, w4, .null, w6, w7] [] H Q = Q none H := jsret_v at161_286 rfl
theorem en161 {S : Option (Nat × (Nat → Int32))} {H : jm_H} {Q : Option Value → jm_H → Prop} {r0 : Nat} : jm_c S 161 [.ref r0] H Q = jm_w S 3 161 0 [.ref r0, .null, .null, .null, .null, .null, .null, .null] [] H Q := rfl
theorem at162_0 : jm_at 162 0 = some (.iload_n 1) := rfl
theorem at162_1 : jm_at 162 1 = some (.aload_n 0) := rfl
theorem at162_2 : jm_at 162 2 = some (.getfield 115) := rfl
theorem rv162g_115 : jm_rv 162 (.getfield 115) = (0, 12, 4, 0) := rfl
theorem at162_5 : jm_at 162 5 = some (.if_icmp .ge 16) := rfl
theorem u162_0 {S : Option (Nat × (Nat → Int32))} {H : jm_H} {Q : Option Value → jm_H → Prop} {r0 : Nat} {x1 : Int32} (h0 : jm_tg H r0 = 13) : jm_w S 1 162 0 [.ref r0, .int x1] [] H Q = if (jm_I H r0 4) ≤ x1 then jm_w S 1 162 21 [.ref r0, .int x1] [] H Q else jm_w S 1 162 8 [.ref r0, .int x1] [] H Q := (js1 at162_0 rfl rfl rfl).trans ((js1 at162_1 rfl rfl rfl).trans ((jsgI (H := H) at162_2 rv162g_115 (Or.inl rfl) h0 rfl).trans (jsif (P := (jm_I H r0 4) ≤ x1) at162_5 rfl rfl)))
theorem at162_8 : jm_at 162 8 = some (.aload_n 0) := rfl
theorem at162_9 : jm_at 162 9 = some (.getfield 17) := rfl
theorem rv162g_17 : jm_rv 162 (.getfield 17) = (0, 12, 3, 0) := rfl
theorem at162_12 : jm_at 162 12 = some (.iload_n 1) := rfl
theorem at162_13 : jm_at 162 13 = some (.baload) := rfl
theorem at162_14 : jm_at 162 14 = some (.sipush 255) := rfl
theorem at162_17 : jm_at 162 17 = some (.iand) := rfl
theorem at162_18 : jm_at 162 18 = some (.goto 4) := rfl
theorem u162_8 {S : Option (Nat × (Nat → Int32))} {H : jm_H} {Q : Option Value → jm_H → Prop} {r0 : Nat} {x1 : Int32} (h0 : jm_tg H r0 = 13) (h1 : ¬ jm_R H r0 3 = 0) (h2 : ¬ (x1 < 0 ∨ jm_ln H (jm_R H r0 3) ≤ Int32.toNatClampNeg x1)) (h3 : jm_tg H (jm_R H r0 3) = 102 ∨ jm_tg H (jm_R H r0 3) = 103) : jm_w S 1 162 8 [.ref r0, .int x1] [] H Q = jm_w S 1 162 22 [.ref r0, .int x1] [.int ((jm_I H (jm_R H r0 3) (Int32.toNatClampNeg x1)) &&& (255 : Int32))] H Q := (js1 at162_8 rfl rfl rfl).trans ((jsgR (H := H) at162_9 rv162g_17 rfl h0 h1 rfl).trans ((js1 at162_12 rfl rfl rfl).trans ((jsbal (H := H) at162_13 h3 h2 rfl).trans ((jscs at162_14 rfl rfl).trans ((js0 at162_17 rfl rfl rfl).trans (js2 at162_18 rfl rfl))))))
theorem at162_21 : jm_at 162 21 = some (.iconst 0) := rfl
theorem u162_21 {S : Option (Nat × (Nat → Int32))} {H : jm_H} {Q : Option Value → jm_H → Prop} {r0 : Nat} {x1 : Int32} : jm_w S 1 162 21 [.ref r0, .int x1] [] H Q = jm_w S 1 162 22 [.ref r0, .int x1] [.int (0 : Int32)] H Q := jsci at162_21 rfl rfl
theorem at162_22 : jm_at 162 22 = some (.ireturn) := rfl
theorem u162_22 {S : Option (Nat × (Nat → Int32))} {H : jm_H} {Q : Option Value → jm_H → Prop} {r0 : Nat} {x1 p0 : Int32} : jm_w S 1 162 22 [.ref r0, .int x1] [.int p0] H Q = Q (some (.int p0)) H := jsret_i at162_22 rfl
theorem en162 {S : Option (Nat × (Nat → Int32))} {H : jm_H} {Q : Option Value → jm_H → Prop} {r0 : Nat} {x1 : Int32} : jm_c S 162 [.ref r0, .int x1] H Q = jm_w S 1 162 0 [.ref r0, .int x1] [] H Q := rfl
theorem at163_0 : jm_at 163 0 = some (.aload_n 0) := rfl
theorem at163_1 : jm_at 163 1 = some (.getfield 20) := rfl
theorem rv163g_20 : jm_rv 163 (.getfield 20) = (0, 12, 5, 0) := rfl
theorem at163_4 : jm_at 163 4 = some (.aload_n 0) := rfl
theorem at163_5 : jm_at 163 5 = some (.getfield 124) := rfl
theorem rv163g_124 : jm_rv 163 (.getfield 124) = (0, 12, 10, 0) := rfl
theorem at163_8 : jm_at 163 8 = some (.iload_n 1) := rfl
theorem at163_9 : jm_at 163 9 = some (.iastore) := rfl
theorem at163_10 : jm_at 163 10 = some (.aload_n 0) := rfl
theorem at163_11 : jm_at 163 11 = some (.getfield 24) := rfl
theorem rv163g_24 : jm_rv 163 (.getfield 24) = (0, 12, 6, 0) := rfl
theorem at163_14 : jm_at 163 14 = some (.aload_n 0) := rfl
theorem at163_15 : jm_at 163 15 = some (.getfield 124) := rfl
theorem at163_18 : jm_at 163 18 = some (.iload_n 2) := rfl
theorem at163_19 : jm_at 163 19 = some (.iastore) := rfl
theorem at163_20 : jm_at 163 20 = some (.aload_n 0) := rfl
theorem at163_21 : jm_at 163 21 = some (.getfield 27) := rfl
theorem rv163g_27 : jm_rv 163 (.getfield 27) = (0, 12, 7, 0) := rfl
theorem at163_24 : jm_at 163 24 = some (.aload_n 0) := rfl
theorem at163_25 : jm_at 163 25 = some (.getfield 124) := rfl
theorem at163_28 : jm_at 163 28 = some (.iload_n 3) := rfl
theorem at163_29 : jm_at 163 29 = some (.iastore) := rfl
theorem at163_30 : jm_at 163 30 = some (.aload_n 0) := rfl
theorem at163_31 : jm_at 163 31 = some (.getfield 30) := rfl
theorem rv163g_30 : jm_rv 163 (.getfield 30) = (0, 12, 8, 0) := rfl
theorem at163_34 : jm_at 163 34 = some (.aload_n 0) := rfl
theorem at163_35 : jm_at 163 35 = some (.getfield 124) := rfl
theorem at163_38 : jm_at 163 38 = some (.lload 4) := rfl
theorem at163_40 : jm_at 163 40 = some (.lastore) := rfl
theorem at163_41 : jm_at 163 41 = some (.aload_n 0) := rfl
theorem at163_42 : jm_at 163 42 = some (.dup) := rfl
theorem at163_43 : jm_at 163 43 = some (.getfield 124) := rfl
theorem at163_46 : jm_at 163 46 = some (.iconst 1) := rfl
theorem at163_47 : jm_at 163 47 = some (.iadd) := rfl
theorem at163_48 : jm_at 163 48 = some (.putfield 124) := rfl
theorem rv163p_124 : jm_rv 163 (.putfield 124) = (0, 12, 10, 0) := rfl
theorem at163_51 : jm_at 163 51 = some (.return_) := rfl
theorem u163_0 {S : Option (Nat × (Nat → Int32))} {H : jm_H} {Q : Option Value → jm_H → Prop} {r0 : Nat} {x1 x2 x3 : Int32} {y4 : Int64} (h0 : jm_tg H r0 = 13) (h1 : ¬ jm_R H r0 5 = 0) (h2 : ¬ ((jm_I H r0 10) < 0 ∨ jm_ln H (jm_R H r0 5) ≤ Int32.toNatClampNeg (jm_I H r0 10))) (h3 : jm_tg H (jm_R H r0 5) = 100) (h4 : ¬ jm_R H r0 6 = 0) (h5 : ¬ ((jm_I (jm_pI H (jm_R H r0 5) (Int32.toNatClampNeg (jm_I H r0 10)) x1) r0 10) < 0 ∨ jm_ln H (jm_R H r0 6) ≤ Int32.toNatClampNeg (jm_I (jm_pI H (jm_R H r0 5) (Int32.toNatClampNeg (jm_I H r0 10)) x1) r0 10))) (h6 : jm_tg H (jm_R H r0 6) = 100) (h7 : ¬ jm_R H r0 7 = 0) (h8 : ¬ ((jm_I (jm_pI (jm_pI H (jm_R H r0 5) (Int32.toNatClampNeg (jm_I H r0 10)) x1) (jm_R H r0 6) (Int32.toNatClampNeg (jm_I (jm_pI H (jm_R H r0 5) (Int32.toNatClampNeg (jm_I H r0 10)) x1) r0 10)) x2) r0 10) < 0 ∨ jm_ln H (jm_R H r0 7) ≤ Int32.toNatClampNeg (jm_I (jm_pI (jm_pI H (jm_R H r0 5) (Int32.toNatClampNeg (jm_I H r0 10)) x1) (jm_R H r0 6) (Int32.toNatClampNeg (jm_I (jm_pI H (jm_R H r0 5) (Int32.toNatClampNeg (jm_I H r0 10)) x1) r0 10)) x2) r0 10))) (h9 : jm_tg H (jm_R H r0 7) = 100) (h10 : ¬ jm_R H r0 8 = 0) (h11 : ¬ ((jm_I (jm_pI (jm_pI (jm_pI H (jm_R H r0 5) (Int32.toNatClampNeg (jm_I H r0 10)) x1) (jm_R H r0 6) (Int32.toNatClampNeg (jm_I (jm_pI H (jm_R H r0 5) (Int32.toNatClampNeg (jm_I H r0 10)) x1) r0 10)) x2) (jm_R H r0 7) (Int32.toNatClampNeg (jm_I (jm_pI (jm_pI H (jm_R H r0 5) (Int32.toNatClampNeg (jm_I H r0 10)) x1) (jm_R H r0 6) (Int32.toNatClampNeg (jm_I (jm_pI H (jm_R H r0 5) (Int32.toNatClampNeg (jm_I H r0 10)) x1) r0 10)) x2) r0 10)) x3) r0 10) < 0 ∨ jm_ln H (jm_R H r0 8) ≤ Int32.toNatClampNeg (jm_I (jm_pI (jm_pI (jm_pI H (jm_R H r0 5) (Int32.toNatClampNeg (jm_I H r0 10)) x1) (jm_R H r0 6) (Int32.toNatClampNeg (jm_I (jm_pI H (jm_R H r0 5) (Int32.toNatClampNeg (jm_I H r0 10)) x1) r0 10)) x2) (jm_R H r0 7) (Int32.toNatClampNeg (jm_I (jm_pI (jm_pI H (jm_R H r0 5) (Int32.toNatClampNeg (jm_I H r0 10)) x1) (jm_R H r0 6) (Int32.toNatClampNeg (jm_I (jm_pI H (jm_R H r0 5) (Int32.toNatClampNeg (jm_I H r0 10)) x1) r0 10)) x2) r0 10)) x3) r0 10))) (h12 : jm_tg H (jm_R H r0 8) = 101) : jm_w S 1 163 0 [.ref r0, .int x1, .int x2, .int x3, .long y4, .null] [] H Q = Q none (jm_pI (jm_pL (jm_pI (jm_pI (jm_pI H (jm_R H r0 5) (Int32.toNatClampNeg (jm_I H r0 10)) x1) (jm_R H r0 6) (Int32.toNatClampNeg (jm_I (jm_pI H (jm_R H r0 5) (Int32.toNatClampNeg (jm_I H r0 10)) x1) r0 10)) x2) (jm_R H r0 7) (Int32.toNatClampNeg (jm_I (jm_pI (jm_pI H (jm_R H r0 5) (Int32.toNatClampNeg (jm_I H r0 10)) x1) (jm_R H r0 6) (Int32.toNatClampNeg (jm_I (jm_pI H (jm_R H r0 5) (Int32.toNatClampNeg (jm_I H r0 10)) x1) r0 10)) x2) r0 10)) x3) (jm_R H r0 8) (Int32.toNatClampNeg (jm_I (jm_pI (jm_pI (jm_pI H (jm_R H r0 5) (Int32.toNatClampNeg (jm_I H r0 10)) x1) (jm_R H r0 6) (Int32.toNatClampNeg (jm_I (jm_pI H (jm_R H r0 5) (Int32.toNatClampNeg (jm_I H r0 10)) x1) r0 10)) x2) (jm_R H r0 7) (Int32.toNatClampNeg (jm_I (jm_pI (jm_pI H (jm_R H r0 5) (Int32.toNatClampNeg (jm_I H r0 10)) x1) (jm_R H r0 6) (Int32.toNatClampNeg (jm_I (jm_pI H (jm_R H r0 5) (Int32.toNatClampNeg (jm_I H r0 10)) x1) r0 10)) x2) r0 10)) x3) r0 10)) y4) r0 10 ((jm_I (jm_pL (jm_pI (jm_pI (jm_pI H (jm_R H r0 5) (Int32.toNatClampNeg (jm_I H r0 10)) x1) (jm_R H r0 6) (Int32.toNatClampNeg (jm_I (jm_pI H (jm_R H r0 5) (Int32.toNatClampNeg (jm_I H r0 10)) x1) r0 10)) x2) (jm_R H r0 7) (Int32.toNatClampNeg (jm_I (jm_pI (jm_pI H (jm_R H r0 5) (Int32.toNatClampNeg (jm_I H r0 10)) x1) (jm_R H r0 6) (Int32.toNatClampNeg (jm_I (jm_pI H (jm_R H r0 5) (Int32.toNatClampNeg (jm_I H r0 10)) x1) r0 10)) x2) r0 10)) x3) (jm_R H r0 8) (Int32.toNatClampNeg (jm_I (jm_pI (jm_pI (jm_pI H (jm_R H r0 5) (Int32.toNatClampNeg (jm_I H r0 10)) x1) (jm_R H r0 6) (Int32.toNatClampNeg (jm_I (jm_pI H (jm_R H r0 5) (Int32.toNatClampNeg (jm_I H r0 10)) x1) r0 10)) x2) (jm_R H r0 7) (Int32.toNatClampNeg (jm_I (jm_pI (jm_pI H (jm_R H r0 5) (Int32.toNatClampNeg (jm_I H r0 10)) x1) (jm_R H r0 6) (Int32.toNatClampNeg (jm_I (jm_pI H (jm_R H r0 5) (Int32.toNatClampNeg (jm_I H r0 10)) x1) r0 10)) x2) r0 10)) x3) r0 10)) y4) r0 10) + (1 : Int32))) := (js1 at163_0 rfl rfl rfl).trans ((jsgR (H := H) at163_1 rv163g_20 rfl h0 h1 rfl).trans ((js1 at163_4 rfl rfl rfl).trans ((jsgI (H := H) at163_5 rv163g_124 (Or.inl rfl) h0 rfl).trans ((js1 at163_8 rfl rfl rfl).trans ((jsias (H := H) at163_9 h3 h2 rfl).trans ((js1 at163_10 rfl rfl rfl).trans ((jsgR (H := (jm_pI H (jm_R H r0 5) (Int32.toNatClampNeg (jm_I H r0 10)) x1)) at163_11 rv163g_24 rfl h0 h4 rfl).trans ((js1 at163_14 rfl rfl rfl).trans ((jsgI (H := (jm_pI H (jm_R H r0 5) (Int32.toNatClampNeg (jm_I H r0 10)) x1)) at163_15 rv163g_124 (Or.inl rfl) h0 rfl).trans ((js1 at163_18 rfl rfl rfl).trans ((jsias (H := (jm_pI H (jm_R H r0 5) (Int32.toNatClampNeg (jm_I H r0 10)) x1)) at163_19 h6 h5 rfl).trans ((js1 at163_20 rfl rfl rfl).trans ((jsgR (H := (jm_pI (jm_pI H (jm_R H r0 5) (Int32.toNatClampNeg (jm_I H r0 10)) x1) (jm_R H r0 6) (Int32.toNatClampNeg (jm_I (jm_pI H (jm_R H r0 5) (Int32.toNatClampNeg (jm_I H r0 10)) x1) r0 10)) x2)) at163_21 rv163g_27 rfl h0 h7 rfl).trans ((js1 at163_24 rfl rfl rfl).trans ((jsgI (H := (jm_pI (jm_pI H (jm_R H r0 5) (Int32.toNatClampNeg (jm_I H r0 10)) x1) (jm_R H r0 6) (Int32.toNatClampNeg (jm_I (jm_pI H (jm_R H r0 5) (Int32.toNatClampNeg (jm_I H r0 10)) x1) r0 10)) x2)) at163_25 rv163g_124 (Or.inl rfl) h0 rfl).trans ((js1 at163_28 rfl rfl rfl).trans ((jsias (H := (jm_pI (jm_pI H (jm_R H r0 5) (Int32.toNatClampNeg (jm_I H r0 10)) x1) (jm_R H r0 6) (Int32.toNatClampNeg (jm_I (jm_pI H (jm_R H r0 5) (Int32.toNatClampNeg (jm_I H r0 10)) x1) r0 10)) x2)) at163_29 h9 h8 rfl).trans ((js1 at163_30 rfl rfl rfl).trans ((jsgR (H := (jm_pI (jm_pI (jm_pI H (jm_R H r0 5) (Int32.toNatClampNeg (jm_I H r0 10)) x1) (jm_R H r0 6) (Int32.toNatClampNeg (jm_I (jm_pI H (jm_R H r0 5) (Int32.toNatClampNeg (jm_I H r0 10)) x1) r0 10)) x2) (jm_R H r0 7) (Int32.toNatClampNeg (jm_I (jm_pI (jm_pI H (jm_R H r0 5) (Int32.toNatClampNeg (jm_I H r0 10)) x1) (jm_R H r0 6) (Int32.toNatClampNeg (jm_I (jm_pI H (jm_R H r0 5) (Int32.toNatClampNeg (jm_I H r0 10)) x1) r0 10)) x2) r0 10)) x3)) at163_31 rv163g_30 rfl h0 h10 rfl).trans ((js1 at163_34 rfl rfl rfl).trans ((jsgI (H := (jm_pI (jm_pI (jm_pI H (jm_R H r0 5) (Int32.toNatClampNeg (jm_I H r0 10)) x1) (jm_R H r0 6) (Int32.toNatClampNeg (jm_I (jm_pI H (jm_R H r0 5) (Int32.toNatClampNeg (jm_I H r0 10)) x1) r0 10)) x2) (jm_R H r0 7) (Int32.toNatClampNeg (jm_I (jm_pI (jm_pI H (jm_R H r0 5) (Int32.toNatClampNeg (jm_I H r0 10)) x1) (jm_R H r0 6) (Int32.toNatClampNeg (jm_I (jm_pI H (jm_R H r0 5) (Int32.toNatClampNeg (jm_I H r0 10)) x1) r0 10)) x2) r0 10)) x3)) at163_35 rv163g_124 (Or.inl rfl) h0 rfl).trans ((js1 at163_38 rfl rfl rfl).trans ((jslas (H := (jm_pI (jm_pI (jm_pI H (jm_R H r0 5) (Int32.toNatClampNeg (jm_I H r0 10)) x1) (jm_R H r0 6) (Int32.toNatClampNeg (jm_I (jm_pI H (jm_R H r0 5) (Int32.toNatClampNeg (jm_I H r0 10)) x1) r0 10)) x2) (jm_R H r0 7) (Int32.toNatClampNeg (jm_I (jm_pI (jm_pI H (jm_R H r0 5) (Int32.toNatClampNeg (jm_I H r0 10)) x1) (jm_R H r0 6) (Int32.toNatClampNeg (jm_I (jm_pI H (jm_R H r0 5) (Int32.toNatClampNeg (jm_I H r0 10)) x1) r0 10)) x2) r0 10)) x3)) at163_40 h12 h11 rfl).trans ((js1 at163_41 rfl rfl rfl).trans ((js0 at163_42 rfl rfl rfl).trans ((jsgI (H := (jm_pL (jm_pI (jm_pI (jm_pI H (jm_R H r0 5) (Int32.toNatClampNeg (jm_I H r0 10)) x1) (jm_R H r0 6) (Int32.toNatClampNeg (jm_I (jm_pI H (jm_R H r0 5) (Int32.toNatClampNeg (jm_I H r0 10)) x1) r0 10)) x2) (jm_R H r0 7) (Int32.toNatClampNeg (jm_I (jm_pI (jm_pI H (jm_R H r0 5) (Int32.toNatClampNeg (jm_I H r0 10)) x1) (jm_R H r0 6) (Int32.toNatClampNeg (jm_I (jm_pI H (jm_R H r0 5) (Int32.toNatClampNeg (jm_I H r0 10)) x1) r0 10)) x2) r0 10)) x3) (jm_R H r0 8) (Int32.toNatClampNeg (jm_I (jm_pI (jm_pI (jm_pI H (jm_R H r0 5) (Int32.toNatClampNeg (jm_I H r0 10)) x1) (jm_R H r0 6) (Int32.toNatClampNeg (jm_I (jm_pI H (jm_R H r0 5) (Int32.toNatClampNeg (jm_I H r0 10)) x1) r0 10)) x2) (jm_R H r0 7) (Int32.toNatClampNeg (jm_I (jm_pI (jm_pI H (jm_R H r0 5) (Int32.toNatClampNeg (jm_I H r0 10)) x1) (jm_R H r0 6) (Int32.toNatClampNeg (jm_I (jm_pI H (jm_R H r0 5) (Int32.toNatClampNeg (jm_I H r0 10)) x1) r0 10)) x2) r0 10)) x3) r0 10)) y4)) at163_43 rv163g_124 (Or.inl rfl) h0 rfl).trans ((jsci at163_46 rfl rfl).trans ((js0 at163_47 rfl rfl rfl).trans ((jspI (H := (jm_pL (jm_pI (jm_pI (jm_pI H (jm_R H r0 5) (Int32.toNatClampNeg (jm_I H r0 10)) x1) (jm_R H r0 6) (Int32.toNatClampNeg (jm_I (jm_pI H (jm_R H r0 5) (Int32.toNatClampNeg (jm_I H r0 10)) x1) r0 10)) x2) (jm_R H r0 7) (Int32.toNatClampNeg (jm_I (jm_pI (jm_pI H (jm_R H r0 5) (Int32.toNatClampNeg (jm_I H r0 10)) x1) (jm_R H r0 6) (Int32.toNatClampNeg (jm_I (jm_pI H (jm_R H r0 5) (Int32.toNatClampNeg (jm_I H r0 10)) x1) r0 10)) x2) r0 10)) x3) (jm_R H r0 8) (Int32.toNatClampNeg (jm_I (jm_pI (jm_pI (jm_pI H (jm_R H r0 5) (Int32.toNatClampNeg (jm_I H r0 10)) x1) (jm_R H r0 6) (Int32.toNatClampNeg (jm_I (jm_pI H (jm_R H r0 5) (Int32.toNatClampNeg (jm_I H r0 10)) x1) r0 10)) x2) (jm_R H r0 7) (Int32.toNatClampNeg (jm_I (jm_pI (jm_pI H (jm_R H r0 5) (Int32.toNatClampNeg (jm_I H r0 10)) x1) (jm_R H r0 6) (Int32.toNatClampNeg (jm_I (jm_pI H (jm_R H r0 5) (Int32.toNatClampNeg (jm_I H r0 10)) x1) r0 10)) x2) r0 10)) x3) r0 10)) y4)) at163_48 rv163p_124 rfl h0 rfl).trans (jsret_v at163_51 rfl))))))))))))))))))))))))))))))
theorem en163 {S : Option (Nat × (Nat → Int32))} {H : jm_H} {Q : Option Value → jm_H → Prop} {r0 : Nat} {x1 x2 x3 : Int32} {y4 : Int64} : jm_c S 163 [.ref r0, .int x1, .int x2, .int x3, .long y4] H Q = jm_w S 1 163 0 [.ref r0, .int x1, .int x2, .int x3, .long y4, .null] [] H Q := rfl
theorem at164_0 : jm_at 164 0 = some (.iload_n 0) := rfl
theorem at164_1 : jm_at 164 1 = some (.bipush 97) := rfl
theorem at164_3 : jm_at 164 3 = some (.if_icmp .lt 13) := rfl
theorem u164_0 {S : Option (Nat × (Nat → Int32))} {H : jm_H} {Q : Option Value → jm_H → Prop} {x0 : Int32} : jm_w S 1 164 0 [.int x0] [] H Q = if x0 < (97 : Int32) then jm_w S 1 164 16 [.int x0] [] H Q else jm_w S 1 164 6 [.int x0] [] H Q := (js1 at164_0 rfl rfl rfl).trans ((jscb at164_1 rfl rfl).trans (jsif (P := x0 < (97 : Int32)) at164_3 rfl rfl))
theorem at164_6 : jm_at 164 6 = some (.iload_n 0) := rfl
theorem at164_7 : jm_at 164 7 = some (.bipush 122) := rfl
theorem at164_9 : jm_at 164 9 = some (.if_icmp .gt 7) := rfl
theorem u164_6 {S : Option (Nat × (Nat → Int32))} {H : jm_H} {Q : Option Value → jm_H → Prop} {x0 : Int32} : jm_w S 1 164 6 [.int x0] [] H Q = if (122 : Int32) < x0 then jm_w S 1 164 16 [.int x0] [] H Q else jm_w S 1 164 12 [.int x0] [] H Q := (js1 at164_6 rfl rfl rfl).trans ((jscb at164_7 rfl rfl).trans (jsif (P := (122 : Int32) < x0) at164_9 rfl rfl))
theorem at164_12 : jm_at 164 12 = some (.iconst 1) := rfl
theorem at164_13 : jm_at 164 13 = some (.goto 4) := rfl
theorem u164_12 {S : Option (Nat × (Nat → Int32))} {H : jm_H} {Q : Option Value → jm_H → Prop} {x0 : Int32} : jm_w S 1 164 12 [.int x0] [] H Q = jm_w S 1 164 17 [.int x0] [.int (1 : Int32)] H Q := (jsci at164_12 rfl rfl).trans (js2 at164_13 rfl rfl)
theorem at164_16 : jm_at 164 16 = some (.iconst 0) := rfl
theorem u164_16 {S : Option (Nat × (Nat → Int32))} {H : jm_H} {Q : Option Value → jm_H → Prop} {x0 : Int32} : jm_w S 1 164 16 [.int x0] [] H Q = jm_w S 1 164 17 [.int x0] [.int (0 : Int32)] H Q := jsci at164_16 rfl rfl
theorem at164_17 : jm_at 164 17 = some (.ireturn) := rfl
theorem u164_17 {S : Option (Nat × (Nat → Int32))} {H : jm_H} {Q : Option Value → jm_H → Prop} {x0 p0 : Int32} (h0 : p0 = 0 ∨ p0 = 1) : jm_w S 1 164 17 [.int x0] [.int p0] H Q = Q (some (.int p0)) H := jsret_z at164_17 rfl h0
theorem en164 {S : Option (Nat × (Nat → Int32))} {H : jm_H} {Q : Option Value → jm_H → Prop} {x0 : Int32} : jm_c S 164 [.int x0] H Q = jm_w S 1 164 0 [.int x0] [] H Q := rfl
theorem at165_0 : jm_at 165 0 = some (.iload_n 0) := rfl
theorem at165_1 : jm_at 165 1 = some (.bipush 48) := rfl
theorem at165_3 : jm_at 165 3 = some (.if_icmp .lt 13) := rfl
theorem u165_0 {S : Option (Nat × (Nat → Int32))} {H : jm_H} {Q : Option Value → jm_H → Prop} {x0 : Int32} : jm_w S 1 165 0 [.int x0] [] H Q = if x0 < (48 : Int32) then jm_w S 1 165 16 [.int x0] [] H Q else jm_w S 1 165 6 [.int x0] [] H Q := (js1 at165_0 rfl rfl rfl).trans ((jscb at165_1 rfl rfl).trans (jsif (P := x0 < (48 : Int32)) at165_3 rfl rfl))
theorem at165_6 : jm_at 165 6 = some (.iload_n 0) := rfl
theorem at165_7 : jm_at 165 7 = some (.bipush 57) := rfl
theorem at165_9 : jm_at 165 9 = some (.if_icmp .gt 7) := rfl
theorem u165_6 {S : Option (Nat × (Nat → Int32))} {H : jm_H} {Q : Option Value → jm_H → Prop} {x0 : Int32} : jm_w S 1 165 6 [.int x0] [] H Q = if (57 : Int32) < x0 then jm_w S 1 165 16 [.int x0] [] H Q else jm_w S 1 165 12 [.int x0] [] H Q := (js1 at165_6 rfl rfl rfl).trans ((jscb at165_7 rfl rfl).trans (jsif (P := (57 : Int32) < x0) at165_9 rfl rfl))
theorem at165_12 : jm_at 165 12 = some (.iconst 1) := rfl
theorem at165_13 : jm_at 165 13 = some (.goto 4) := rfl
theorem u165_12 {S : Option (Nat × (Nat → Int32))} {H : jm_H} {Q : Option Value → jm_H → Prop} {x0 : Int32} : jm_w S 1 165 12 [.int x0] [] H Q = jm_w S 1 165 17 [.int x0] [.int (1 : Int32)] H Q := (jsci at165_12 rfl rfl).trans (js2 at165_13 rfl rfl)
theorem at165_16 : jm_at 165 16 = some (.iconst 0) := rfl
theorem u165_16 {S : Option (Nat × (Nat → Int32))} {H : jm_H} {Q : Option Value → jm_H → Prop} {x0 : Int32} : jm_w S 1 165 16 [.int x0] [] H Q = jm_w S 1 165 17 [.int x0] [.int (0 : Int32)] H Q := jsci at165_16 rfl rfl
theorem at165_17 : jm_at 165 17 = some (.ireturn) := rfl
theorem u165_17 {S : Option (Nat × (Nat → Int32))} {H : jm_H} {Q : Option Value → jm_H → Prop} {x0 p0 : Int32} (h0 : p0 = 0 ∨ p0 = 1) : jm_w S 1 165 17 [.int x0] [.int p0] H Q = Q (some (.int p0)) H := jsret_z at165_17 rfl h0
theorem en165 {S : Option (Nat × (Nat → Int32))} {H : jm_H} {Q : Option Value → jm_H → Prop} {x0 : Int32} : jm_c S 165 [.int x0] H Q = jm_w S 1 165 0 [.int x0] [] H Q := rfl
theorem at166_0 : jm_at 166 0 = some (.aload_n 0) := rfl
theorem at166_1 : jm_at 166 1 = some (.iload_n 2) := rfl
theorem at166_2 : jm_at 166 2 = some (.invokestatic 146) := rfl
theorem rv166i_146 : jm_rv 166 (.invokestatic 146) = (1, 167, 0, 0) := rfl
theorem u166_0 {S : Option (Nat × (Nat → Int32))} {H : jm_H} {Q : Option Value → jm_H → Prop} {r0 : Nat} {x1 x2 : Int32} : jm_w S 2 166 0 [.ref r0, .int x1, .int x2] [] H Q = jm_c S 167 [.int x2] H (fun v G => jm_w S 2 166 5 [.ref r0, .int x1, .int x2] (v.toList ++ [.ref r0]) G Q) := (js1 at166_0 rfl rfl rfl).trans ((js1 at166_1 rfl rfl rfl).trans (jscall (H := H) (as := [.int x2]) (q := [.ref r0]) at166_2 rfl rv166i_146 (jscut rfl rfl rfl (Nat.le_of_ble_eq_true rfl)) rfl (Nat.le_of_ble_eq_true rfl) rfl rfl))
theorem at166_5 : jm_at 166 5 = some (.iload_n 1) := rfl
theorem at166_6 : jm_at 166 6 = some (.iconst 0) := rfl
theorem at166_7 : jm_at 166 7 = some (.lconst 0) := rfl
theorem at166_8 : jm_at 166 8 = some (.invokevirtual 131) := rfl
theorem rv166i_131 : jm_rv 166 (.invokevirtual 131) = (2, 163, 0, 0) := rfl
theorem u166_5 {S : Option (Nat × (Nat → Int32))} {H : jm_H} {Q : Option Value → jm_H → Prop} {r0 o0 : Nat} {x1 x2 p1 : Int32} (h0 : jm_tg H o0 = 13) : jm_w S 2 166 5 [.ref r0, .int x1, .int x2] [.int p1, .ref o0] H Q = jm_c S 163 [.ref o0, .int p1, .int x1, .int (0 : Int32), .long (0 : Int64)] H (fun v G => jm_w S 2 166 11 [.ref r0, .int x1, .int x2] (v.toList ++ []) G Q) := (js1 at166_5 rfl rfl rfl).trans ((jsci at166_6 rfl rfl).trans ((jscl at166_7 rfl rfl).trans (jscall (H := H) (as := [.ref o0, .int p1, .int x1, .int (0 : Int32), .long (0 : Int64)]) (q := []) at166_8 rfl rv166i_131 (jscutV rfl rfl rfl (Nat.le_of_ble_eq_true rfl) rfl h0) rfl (Nat.le_of_ble_eq_true rfl) rfl rfl)))
theorem at166_11 : jm_at 166 11 = some (.iconst 1) := rfl
theorem at166_12 : jm_at 166 12 = some (.ireturn) := rfl
theorem u166_11 {S : Option (Nat × (Nat → Int32))} {H : jm_H} {Q : Option Value → jm_H → Prop} {r0 : Nat} {x1 x2 : Int32} : jm_w S 2 166 11 [.ref r0, .int x1, .int x2] [] H Q = Q (some (.int (1 : Int32))) H := (jsci at166_11 rfl rfl).trans (jsret_i at166_12 rfl)
theorem en166 {S : Option (Nat × (Nat → Int32))} {H : jm_H} {Q : Option Value → jm_H → Prop} {r0 : Nat} {x1 x2 : Int32} : jm_c S 166 [.ref r0, .int x1, .int x2] H Q = jm_w S 2 166 0 [.ref r0, .int x1, .int x2] [] H Q := rfl
theorem at167_0 : jm_at 167 0 = some (.iload_n 0) := rfl
theorem u167_0 {S : Option (Nat × (Nat → Int32))} {H : jm_H} {Q : Option Value → jm_H → Prop} {x0 : Int32} : jm_w S 1 167 0 [.int x0] [] H Q = jm_w S 1 167 1 [.int x0] [.int x0] H Q := js1 at167_0 rfl rfl rfl
theorem at167_1 : jm_at 167 1 = some (.tableswitch 117 40 59 #[108, 111, 102, 97, 114, 99, 117, 105, 117, 117, 117, 117, 117, 117, 117, 117, 117, 117, 117, 95]) := rfl
theorem u167_1_40 {S : Option (Nat × (Nat → Int32))} {H : jm_H} {Q : Option Value → jm_H → Prop} {x0 : Int32} : jm_w S 1 167 1 [.int x0] [.int 40] H Q = jm_w S 1 167 109 [.int x0] [] H Q := js2 at167_1 rfl rfl
theorem u167_1_41 {S : Option (Nat × (Nat → Int32))} {H : jm_H} {Q : Option Value → jm_H → Prop} {x0 : Int32} : jm_w S 1 167 1 [.int x0] [.int 41] H Q = jm_w S 1 167 112 [.int x0] [] H Q := js2 at167_1 rfl rfl
theorem u167_1_42 {S : Option (Nat × (Nat → Int32))} {H : jm_H} {Q : Option Value → jm_H → Prop} {x0 : Int32} : jm_w S 1 167 1 [.int x0] [.int 42] H Q = jm_w S 1 167 103 [.int x0] [] H Q := js2 at167_1 rfl rfl
theorem u167_1_43 {S : Option (Nat × (Nat → Int32))} {H : jm_H} {Q : Option Value → jm_H → Prop} {x0 : Int32} : jm_w S 1 167 1 [.int x0] [.int 43] H Q = jm_w S 1 167 98 [.int x0] [] H Q := js2 at167_1 rfl rfl
theorem u167_1_44 {S : Option (Nat × (Nat → Int32))} {H : jm_H} {Q : Option Value → jm_H → Prop} {x0 : Int32} : jm_w S 1 167 1 [.int x0] [.int 44] H Q = jm_w S 1 167 115 [.int x0] [] H Q := js2 at167_1 rfl rfl
theorem u167_1_45 {S : Option (Nat × (Nat → Int32))} {H : jm_H} {Q : Option Value → jm_H → Prop} {x0 : Int32} : jm_w S 1 167 1 [.int x0] [.int 45] H Q = jm_w S 1 167 100 [.int x0] [] H Q := js2 at167_1 rfl rfl
theorem u167_1_46 {S : Option (Nat × (Nat → Int32))} {H : jm_H} {Q : Option Value → jm_H → Prop} {x0 : Int32} : jm_w S 1 167 1 [.int x0] [.int 46] H Q = jm_w S 1 167 118 [.int x0] [] H Q := js2 at167_1 rfl rfl
theorem u167_1_47 {S : Option (Nat × (Nat → Int32))} {H : jm_H} {Q : Option Value → jm_H → Prop} {x0 : Int32} : jm_w S 1 167 1 [.int x0] [.int 47] H Q = jm_w S 1 167 106 [.int x0] [] H Q := js2 at167_1 rfl rfl
theorem u167_1_48 {S : Option (Nat × (Nat → Int32))} {H : jm_H} {Q : Option Value → jm_H → Prop} {x0 : Int32} : jm_w S 1 167 1 [.int x0] [.int 48] H Q = jm_w S 1 167 118 [.int x0] [] H Q := js2 at167_1 rfl rfl
theorem u167_1_49 {S : Option (Nat × (Nat → Int32))} {H : jm_H} {Q : Option Value → jm_H → Prop} {x0 : Int32} : jm_w S 1 167 1 [.int x0] [.int 49] H Q = jm_w S 1 167 118 [.int x0] [] H Q := js2 at167_1 rfl rfl
theorem u167_1_50 {S : Option (Nat × (Nat → Int32))} {H : jm_H} {Q : Option Value → jm_H → Prop} {x0 : Int32} : jm_w S 1 167 1 [.int x0] [.int 50] H Q = jm_w S 1 167 118 [.int x0] [] H Q := js2 at167_1 rfl rfl
theorem u167_1_51 {S : Option (Nat × (Nat → Int32))} {H : jm_H} {Q : Option Value → jm_H → Prop} {x0 : Int32} : jm_w S 1 167 1 [.int x0] [.int 51] H Q = jm_w S 1 167 118 [.int x0] [] H Q := js2 at167_1 rfl rfl
theorem u167_1_52 {S : Option (Nat × (Nat → Int32))} {H : jm_H} {Q : Option Value → jm_H → Prop} {x0 : Int32} : jm_w S 1 167 1 [.int x0] [.int 52] H Q = jm_w S 1 167 118 [.int x0] [] H Q := js2 at167_1 rfl rfl
theorem u167_1_53 {S : Option (Nat × (Nat → Int32))} {H : jm_H} {Q : Option Value → jm_H → Prop} {x0 : Int32} : jm_w S 1 167 1 [.int x0] [.int 53] H Q = jm_w S 1 167 118 [.int x0] [] H Q := js2 at167_1 rfl rfl
theorem u167_1_54 {S : Option (Nat × (Nat → Int32))} {H : jm_H} {Q : Option Value → jm_H → Prop} {x0 : Int32} : jm_w S 1 167 1 [.int x0] [.int 54] H Q = jm_w S 1 167 118 [.int x0] [] H Q := js2 at167_1 rfl rfl
theorem u167_1_55 {S : Option (Nat × (Nat → Int32))} {H : jm_H} {Q : Option Value → jm_H → Prop} {x0 : Int32} : jm_w S 1 167 1 [.int x0] [.int 55] H Q = jm_w S 1 167 118 [.int x0] [] H Q := js2 at167_1 rfl rfl
theorem u167_1_56 {S : Option (Nat × (Nat → Int32))} {H : jm_H} {Q : Option Value → jm_H → Prop} {x0 : Int32} : jm_w S 1 167 1 [.int x0] [.int 56] H Q = jm_w S 1 167 118 [.int x0] [] H Q := js2 at167_1 rfl rfl
theorem u167_1_57 {S : Option (Nat × (Nat → Int32))} {H : jm_H} {Q : Option Value → jm_H → Prop} {x0 : Int32} : jm_w S 1 167 1 [.int x0] [.int 57] H Q = jm_w S 1 167 118 [.int x0] [] H Q := js2 at167_1 rfl rfl
theorem u167_1_58 {S : Option (Nat × (Nat → Int32))} {H : jm_H} {Q : Option Value → jm_H → Prop} {x0 : Int32} : jm_w S 1 167 1 [.int x0] [.int 58] H Q = jm_w S 1 167 118 [.int x0] [] H Q := js2 at167_1 rfl rfl
theorem u167_1_59 {S : Option (Nat × (Nat → Int32))} {H : jm_H} {Q : Option Value → jm_H → Prop} {x0 : Int32} : jm_w S 1 167 1 [.int x0] [.int 59] H Q = jm_w S 1 167 96 [.int x0] [] H Q := js2 at167_1 rfl rfl
theorem u167_1_d {S : Option (Nat × (Nat → Int32))} {H : jm_H} {Q : Option Value → jm_H → Prop} {x0 p0 : Int32} (h : Int32.toInt p0 < 40 ∨ 59 < Int32.toInt p0) : jm_w S 1 167 1 [.int x0] [.int p0] H Q = jm_w S 1 167 118 [.int x0] [] H Q := js2 at167_1 rfl ((if_pos h).trans rfl)
theorem at167_96 : jm_at 167 96 = some (.iconst 4) := rfl
theorem at167_97 : jm_at 167 97 = some (.ireturn) := rfl
theorem u167_96 {S : Option (Nat × (Nat → Int32))} {H : jm_H} {Q : Option Value → jm_H → Prop} {x0 : Int32} : jm_w S 1 167 96 [.int x0] [] H Q = Q (some (.int (4 : Int32))) H := (jsci at167_96 rfl rfl).trans (jsret_i at167_97 rfl)
theorem at167_98 : jm_at 167 98 = some (.iconst 5) := rfl
theorem at167_99 : jm_at 167 99 = some (.ireturn) := rfl
theorem u167_98 {S : Option (Nat × (Nat → Int32))} {H : jm_H} {Q : Option Value → jm_H → Prop} {x0 : Int32} : jm_w S 1 167 98 [.int x0] [] H Q = Q (some (.int (5 : Int32))) H := (jsci at167_98 rfl rfl).trans (jsret_i at167_99 rfl)
theorem at167_100 : jm_at 167 100 = some (.bipush 6) := rfl
theorem at167_102 : jm_at 167 102 = some (.ireturn) := rfl
theorem u167_100 {S : Option (Nat × (Nat → Int32))} {H : jm_H} {Q : Option Value → jm_H → Prop} {x0 : Int32} : jm_w S 1 167 100 [.int x0] [] H Q = Q (some (.int (6 : Int32))) H := (jscb at167_100 rfl rfl).trans (jsret_i at167_102 rfl)
theorem at167_103 : jm_at 167 103 = some (.bipush 7) := rfl
theorem at167_105 : jm_at 167 105 = some (.ireturn) := rfl
theorem u167_103 {S : Option (Nat × (Nat → Int32))} {H : jm_H} {Q : Option Value → jm_H → Prop} {x0 : Int32} : jm_w S 1 167 103 [.int x0] [] H Q = Q (some (.int (7 : Int32))) H := (jscb at167_103 rfl rfl).trans (jsret_i at167_105 rfl)
theorem at167_106 : jm_at 167 106 = some (.bipush 8) := rfl
theorem at167_108 : jm_at 167 108 = some (.ireturn) := rfl
theorem u167_106 {S : Option (Nat × (Nat → Int32))} {H : jm_H} {Q : Option Value → jm_H → Prop} {x0 : Int32} : jm_w S 1 167 106 [.int x0] [] H Q = Q (some (.int (8 : Int32))) H := (jscb at167_106 rfl rfl).trans (jsret_i at167_108 rfl)
theorem at167_109 : jm_at 167 109 = some (.bipush 9) := rfl
theorem at167_111 : jm_at 167 111 = some (.ireturn) := rfl
theorem u167_109 {S : Option (Nat × (Nat → Int32))} {H : jm_H} {Q : Option Value → jm_H → Prop} {x0 : Int32} : jm_w S 1 167 109 [.int x0] [] H Q = Q (some (.int (9 : Int32))) H := (jscb at167_109 rfl rfl).trans (jsret_i at167_111 rfl)
theorem at167_112 : jm_at 167 112 = some (.bipush 10) := rfl
theorem at167_114 : jm_at 167 114 = some (.ireturn) := rfl
theorem u167_112 {S : Option (Nat × (Nat → Int32))} {H : jm_H} {Q : Option Value → jm_H → Prop} {x0 : Int32} : jm_w S 1 167 112 [.int x0] [] H Q = Q (some (.int (10 : Int32))) H := (jscb at167_112 rfl rfl).trans (jsret_i at167_114 rfl)
theorem at167_115 : jm_at 167 115 = some (.bipush 11) := rfl
theorem at167_117 : jm_at 167 117 = some (.ireturn) := rfl
theorem u167_115 {S : Option (Nat × (Nat → Int32))} {H : jm_H} {Q : Option Value → jm_H → Prop} {x0 : Int32} : jm_w S 1 167 115 [.int x0] [] H Q = Q (some (.int (11 : Int32))) H := (jscb at167_115 rfl rfl).trans (jsret_i at167_117 rfl)
theorem at167_118 : jm_at 167 118 = some (.iconst 3) := rfl
theorem at167_119 : jm_at 167 119 = some (.ireturn) := rfl
theorem u167_118 {S : Option (Nat × (Nat → Int32))} {H : jm_H} {Q : Option Value → jm_H → Prop} {x0 : Int32} : jm_w S 1 167 118 [.int x0] [] H Q = Q (some (.int (3 : Int32))) H := (jsci at167_118 rfl rfl).trans (jsret_i at167_119 rfl)
theorem en167 {S : Option (Nat × (Nat → Int32))} {H : jm_H} {Q : Option Value → jm_H → Prop} {x0 : Int32} : jm_c S 167 [.int x0] H Q = jm_w S 1 167 0 [.int x0] [] H Q := rfl
theorem at168_0 : jm_at 168 0 = some (.aload_n 0) := rfl
theorem at168_1 : jm_at 168 1 = some (.iload_n 1) := rfl
theorem at168_2 : jm_at 168 2 = some (.invokevirtual 167) := rfl
theorem rv168i_167 : jm_rv 168 (.invokevirtual 167) = (2, 169, 0, 0) := rfl
theorem u168_0 {S : Option (Nat × (Nat → Int32))} {H : jm_H} {Q : Option Value → jm_H → Prop} {r0 : Nat} {x1 : Int32} (h0 : jm_tg H r0 = 13) : jm_w S 3 168 0 [.ref r0, .int x1] [] H Q = jm_c S 169 [.ref r0, .int x1] H (fun v G => jm_w S 3 168 5 [.ref r0, .int x1] (v.toList ++ []) G Q) := (js1 at168_0 rfl rfl rfl).trans ((js1 at168_1 rfl rfl rfl).trans (jscall (H := H) (as := [.ref r0, .int x1]) (q := []) at168_2 rfl rv168i_167 (jscutV rfl rfl rfl (Nat.le_of_ble_eq_true rfl) rfl h0) rfl (Nat.le_of_ble_eq_true rfl) rfl rfl))
theorem at168_5 : jm_at 168 5 = some (.ifCond .eq 10) := rfl
theorem u168_5 {S : Option (Nat × (Nat → Int32))} {H : jm_H} {Q : Option Value → jm_H → Prop} {r0 : Nat} {x1 p0 : Int32} : jm_w S 3 168 5 [.ref r0, .int x1] [.int p0] H Q = if p0 = 0 then jm_w S 3 168 15 [.ref r0, .int x1] [] H Q else jm_w S 3 168 8 [.ref r0, .int x1] [] H Q := jsif (P := p0 = 0) at168_5 rfl rfl
theorem at168_8 : jm_at 168 8 = some (.aload_n 0) := rfl
theorem at168_9 : jm_at 168 9 = some (.invokevirtual 170) := rfl
theorem rv168i_170 : jm_rv 168 (.invokevirtual 170) = (2, 170, 0, 0) := rfl
theorem u168_8 {S : Option (Nat × (Nat → Int32))} {H : jm_H} {Q : Option Value → jm_H → Prop} {r0 : Nat} {x1 : Int32} (h0 : jm_tg H r0 = 13) : jm_w S 3 168 8 [.ref r0, .int x1] [] H Q = jm_c S 170 [.ref r0] H (fun v G => jm_w S 3 168 12 [.ref r0, .int x1] (v.toList ++ []) G Q) := (js1 at168_8 rfl rfl rfl).trans (jscall (H := H) (as := [.ref r0]) (q := []) at168_9 rfl rv168i_170 (jscutV rfl rfl rfl (Nat.le_of_ble_eq_true rfl) rfl h0) rfl (Nat.le_of_ble_eq_true rfl) rfl rfl)
theorem at168_12 : jm_at 168 12 = some (.goto 8) := rfl
theorem u168_12 {S : Option (Nat × (Nat → Int32))} {H : jm_H} {Q : Option Value → jm_H → Prop} {r0 : Nat} {x1 : Int32} : jm_w S 3 168 12 [.ref r0, .int x1] [] H Q = jm_w S 3 168 20 [.ref r0, .int x1] [] H Q := js2 at168_12 rfl rfl
theorem at168_15 : jm_at 168 15 = some (.aload_n 0) := rfl
theorem at168_16 : jm_at 168 16 = some (.iconst 1) := rfl
theorem at168_17 : jm_at 168 17 = some (.invokevirtual 164) := rfl
theorem rv168i_164 : jm_rv 168 (.invokevirtual 164) = (2, 171, 0, 0) := rfl
theorem u168_15 {S : Option (Nat × (Nat → Int32))} {H : jm_H} {Q : Option Value → jm_H → Prop} {r0 : Nat} {x1 : Int32} (h0 : jm_tg H r0 = 13) : jm_w S 3 168 15 [.ref r0, .int x1] [] H Q = jm_c S 171 [.ref r0, .int (1 : Int32)] H (fun v G => jm_w S 3 168 20 [.ref r0, .int x1] (v.toList ++ []) G Q) := (js1 at168_15 rfl rfl rfl).trans ((jsci at168_16 rfl rfl).trans (jscall (H := H) (as := [.ref r0, .int (1 : Int32)]) (q := []) at168_17 rfl rv168i_164 (jscutV rfl rfl rfl (Nat.le_of_ble_eq_true rfl) rfl h0) rfl (Nat.le_of_ble_eq_true rfl) rfl rfl))
theorem at168_20 : jm_at 168 20 = some (.return_) := rfl
theorem u168_20 {S : Option (Nat × (Nat → Int32))} {H : jm_H} {Q : Option Value → jm_H → Prop} {r0 : Nat} {x1 : Int32} : jm_w S 3 168 20 [.ref r0, .int x1] [] H Q = Q none H := jsret_v at168_20 rfl
theorem en168 {S : Option (Nat × (Nat → Int32))} {H : jm_H} {Q : Option Value → jm_H → Prop} {r0 : Nat} {x1 : Int32} : jm_c S 168 [.ref r0, .int x1] H Q = jm_w S 3 168 0 [.ref r0, .int x1] [] H Q := rfl
theorem at169_0 : jm_at 169 0 = some (.aload_n 0) := rfl
theorem at169_1 : jm_at 169 1 = some (.getfield 149) := rfl
theorem rv169g_149 : jm_rv 169 (.getfield 149) = (0, 12, 12, 0) := rfl
theorem at169_4 : jm_at 169 4 = some (.ifCond .ne 20) := rfl
theorem u169_0 {S : Option (Nat × (Nat → Int32))} {H : jm_H} {Q : Option Value → jm_H → Prop} {r0 : Nat} {x1 : Int32} (h0 : jm_tg H r0 = 13) : jm_w S 1 169 0 [.ref r0, .int x1] [] H Q = if ¬ (jm_I H r0 12) = 0 then jm_w S 1 169 24 [.ref r0, .int x1] [] H Q else jm_w S 1 169 7 [.ref r0, .int x1] [] H Q := (js1 at169_0 rfl rfl rfl).trans ((jsgI (H := H) at169_1 rv169g_149 (Or.inl rfl) h0 rfl).trans (jsif (P := ¬ (jm_I H r0 12) = 0) at169_4 rfl rfl))
theorem at169_7 : jm_at 169 7 = some (.aload_n 0) := rfl
theorem at169_8 : jm_at 169 8 = some (.getfield 20) := rfl
theorem rv169g_20 : jm_rv 169 (.getfield 20) = (0, 12, 5, 0) := rfl
theorem at169_11 : jm_at 169 11 = some (.aload_n 0) := rfl
theorem at169_12 : jm_at 169 12 = some (.getfield 152) := rfl
theorem rv169g_152 : jm_rv 169 (.getfield 152) = (0, 12, 11, 0) := rfl
theorem at169_15 : jm_at 169 15 = some (.iaload) := rfl
theorem at169_16 : jm_at 169 16 = some (.iload_n 1) := rfl
theorem at169_17 : jm_at 169 17 = some (.if_icmp .ne 7) := rfl
theorem u169_7 {S : Option (Nat × (Nat → Int32))} {H : jm_H} {Q : Option Value → jm_H → Prop} {r0 : Nat} {x1 : Int32} (h0 : jm_tg H r0 = 13) (h1 : ¬ jm_R H r0 5 = 0) (h2 : ¬ ((jm_I H r0 11) < 0 ∨ jm_ln H (jm_R H r0 5) ≤ Int32.toNatClampNeg (jm_I H r0 11))) (h3 : ¬ (jm_R H r0 5) = 1) (h4 : jm_tg H (jm_R H r0 5) = 100) : jm_w S 1 169 7 [.ref r0, .int x1] [] H Q = if ¬ (jm_I H (jm_R H r0 5) (Int32.toNatClampNeg (jm_I H r0 11))) = x1 then jm_w S 1 169 24 [.ref r0, .int x1] [] H Q else jm_w S 1 169 20 [.ref r0, .int x1] [] H Q := (js1 at169_7 rfl rfl rfl).trans ((jsgR (H := H) at169_8 rv169g_20 rfl h0 h1 rfl).trans ((js1 at169_11 rfl rfl rfl).trans ((jsgI (H := H) at169_12 rv169g_152 (Or.inl rfl) h0 rfl).trans ((jsial (H := H) at169_15 h3 h4 h2 rfl).trans ((js1 at169_16 rfl rfl rfl).trans (jsif (P := ¬ (jm_I H (jm_R H r0 5) (Int32.toNatClampNeg (jm_I H r0 11))) = x1) at169_17 rfl rfl))))))
theorem at169_20 : jm_at 169 20 = some (.iconst 1) := rfl
theorem at169_21 : jm_at 169 21 = some (.goto 4) := rfl
theorem u169_20 {S : Option (Nat × (Nat → Int32))} {H : jm_H} {Q : Option Value → jm_H → Prop} {r0 : Nat} {x1 : Int32} : jm_w S 1 169 20 [.ref r0, .int x1] [] H Q = jm_w S 1 169 25 [.ref r0, .int x1] [.int (1 : Int32)] H Q := (jsci at169_20 rfl rfl).trans (js2 at169_21 rfl rfl)
theorem at169_24 : jm_at 169 24 = some (.iconst 0) := rfl
theorem u169_24 {S : Option (Nat × (Nat → Int32))} {H : jm_H} {Q : Option Value → jm_H → Prop} {r0 : Nat} {x1 : Int32} : jm_w S 1 169 24 [.ref r0, .int x1] [] H Q = jm_w S 1 169 25 [.ref r0, .int x1] [.int (0 : Int32)] H Q := jsci at169_24 rfl rfl
theorem at169_25 : jm_at 169 25 = some (.ireturn) := rfl
theorem u169_25 {S : Option (Nat × (Nat → Int32))} {H : jm_H} {Q : Option Value → jm_H → Prop} {r0 : Nat} {x1 p0 : Int32} (h0 : p0 = 0 ∨ p0 = 1) : jm_w S 1 169 25 [.ref r0, .int x1] [.int p0] H Q = Q (some (.int p0)) H := jsret_z at169_25 rfl h0
theorem en169 {S : Option (Nat × (Nat → Int32))} {H : jm_H} {Q : Option Value → jm_H → Prop} {r0 : Nat} {x1 : Int32} : jm_c S 169 [.ref r0, .int x1] H Q = jm_w S 1 169 0 [.ref r0, .int x1] [] H Q := rfl
theorem at170_0 : jm_at 170 0 = some (.aload_n 0) := rfl
theorem at170_1 : jm_at 170 1 = some (.getfield 152) := rfl
theorem rv170g_152 : jm_rv 170 (.getfield 152) = (0, 12, 11, 0) := rfl
theorem at170_4 : jm_at 170 4 = some (.sipush 400) := rfl
theorem at170_7 : jm_at 170 7 = some (.if_icmp .ne 11) := rfl
theorem u170_0 {S : Option (Nat × (Nat → Int32))} {H : jm_H} {Q : Option Value → jm_H → Prop} {r0 : Nat} (h0 : jm_tg H r0 = 13) : jm_w S 2 170 0 [.ref r0] [] H Q = if ¬ (jm_I H r0 11) = (400 : Int32) then jm_w S 2 170 18 [.ref r0] [] H Q else jm_w S 2 170 10 [.ref r0] [] H Q := (js1 at170_0 rfl rfl rfl).trans ((jsgI (H := H) at170_1 rv170g_152 (Or.inl rfl) h0 rfl).trans ((jscs at170_4 rfl rfl).trans (jsif (P := ¬ (jm_I H r0 11) = (400 : Int32)) at170_7 rfl rfl)))
theorem at170_10 : jm_at 170 10 = some (.aload_n 0) := rfl
theorem at170_11 : jm_at 170 11 = some (.iconst 2) := rfl
theorem at170_12 : jm_at 170 12 = some (.invokevirtual 164) := rfl
theorem rv170i_164 : jm_rv 170 (.invokevirtual 164) = (2, 171, 0, 0) := rfl
theorem u170_10 {S : Option (Nat × (Nat → Int32))} {H : jm_H} {Q : Option Value → jm_H → Prop} {r0 : Nat} (h0 : jm_tg H r0 = 13) : jm_w S 2 170 10 [.ref r0] [] H Q = jm_c S 171 [.ref r0, .int (2 : Int32)] H (fun v G => jm_w S 2 170 15 [.ref r0] (v.toList ++ []) G Q) := (js1 at170_10 rfl rfl rfl).trans ((jsci at170_11 rfl rfl).trans (jscall (H := H) (as := [.ref r0, .int (2 : Int32)]) (q := []) at170_12 rfl rv170i_164 (jscutV rfl rfl rfl (Nat.le_of_ble_eq_true rfl) rfl h0) rfl (Nat.le_of_ble_eq_true rfl) rfl rfl))
theorem at170_15 : jm_at 170 15 = some (.goto 13) := rfl
theorem u170_15 {S : Option (Nat × (Nat → Int32))} {H : jm_H} {Q : Option Value → jm_H → Prop} {r0 : Nat} : jm_w S 2 170 15 [.ref r0] [] H Q = jm_w S 2 170 28 [.ref r0] [] H Q := js2 at170_15 rfl rfl
theorem at170_18 : jm_at 170 18 = some (.aload_n 0) := rfl
theorem at170_19 : jm_at 170 19 = some (.dup) := rfl
theorem at170_20 : jm_at 170 20 = some (.getfield 152) := rfl
theorem at170_23 : jm_at 170 23 = some (.iconst 1) := rfl
theorem at170_24 : jm_at 170 24 = some (.iadd) := rfl
theorem at170_25 : jm_at 170 25 = some (.putfield 152) := rfl
theorem rv170p_152 : jm_rv 170 (.putfield 152) = (0, 12, 11, 0) := rfl
theorem u170_18 {S : Option (Nat × (Nat → Int32))} {H : jm_H} {Q : Option Value → jm_H → Prop} {r0 : Nat} (h0 : jm_tg H r0 = 13) : jm_w S 2 170 18 [.ref r0] [] H Q = jm_w S 2 170 28 [.ref r0] [] (jm_pI H r0 11 ((jm_I H r0 11) + (1 : Int32))) Q := (js1 at170_18 rfl rfl rfl).trans ((js0 at170_19 rfl rfl rfl).trans ((jsgI (H := H) at170_20 rv170g_152 (Or.inl rfl) h0 rfl).trans ((jsci at170_23 rfl rfl).trans ((js0 at170_24 rfl rfl rfl).trans (jspI (H := H) at170_25 rv170p_152 rfl h0 rfl)))))
theorem at170_28 : jm_at 170 28 = some (.return_) := rfl
theorem u170_28 {S : Option (Nat × (Nat → Int32))} {H : jm_H} {Q : Option Value → jm_H → Prop} {r0 : Nat} : jm_w S 2 170 28 [.ref r0] [] H Q = Q none H := jsret_v at170_28 rfl
theorem en170 {S : Option (Nat × (Nat → Int32))} {H : jm_H} {Q : Option Value → jm_H → Prop} {r0 : Nat} : jm_c S 170 [.ref r0] H Q = jm_w S 2 170 0 [.ref r0] [] H Q := rfl
theorem at171_0 : jm_at 171 0 = some (.aload_n 0) := rfl
theorem at171_1 : jm_at 171 1 = some (.getfield 149) := rfl
theorem rv171g_149 : jm_rv 171 (.getfield 149) = (0, 12, 12, 0) := rfl
theorem at171_4 : jm_at 171 4 = some (.ifCond .le 4) := rfl
theorem u171_0 {S : Option (Nat × (Nat → Int32))} {H : jm_H} {Q : Option Value → jm_H → Prop} {r0 : Nat} {x1 : Int32} (h0 : jm_tg H r0 = 13) : jm_w S 1 171 0 [.ref r0, .int x1] [] H Q = if (jm_I H r0 12) ≤ 0 then jm_w S 1 171 8 [.ref r0, .int x1] [] H Q else jm_w S 1 171 7 [.ref r0, .int x1] [] H Q := (js1 at171_0 rfl rfl rfl).trans ((jsgI (H := H) at171_1 rv171g_149 (Or.inl rfl) h0 rfl).trans (jsif (P := (jm_I H r0 12) ≤ 0) at171_4 rfl rfl))
theorem at171_7 : jm_at 171 7 = some (.return_) := rfl
theorem u171_7 {S : Option (Nat × (Nat → Int32))} {H : jm_H} {Q : Option Value → jm_H → Prop} {r0 : Nat} {x1 : Int32} : jm_w S 1 171 7 [.ref r0, .int x1] [] H Q = Q none H := jsret_v at171_7 rfl
theorem at171_8 : jm_at 171 8 = some (.aload_n 0) := rfl
theorem at171_9 : jm_at 171 9 = some (.iload_n 1) := rfl
theorem at171_10 : jm_at 171 10 = some (.putfield 149) := rfl
theorem rv171p_149 : jm_rv 171 (.putfield 149) = (0, 12, 12, 0) := rfl
theorem at171_13 : jm_at 171 13 = some (.aload_n 0) := rfl
theorem at171_14 : jm_at 171 14 = some (.aload_n 0) := rfl
theorem at171_15 : jm_at 171 15 = some (.getfield 24) := rfl
theorem rv171g_24 : jm_rv 171 (.getfield 24) = (0, 12, 6, 0) := rfl
theorem at171_18 : jm_at 171 18 = some (.aload_n 0) := rfl
theorem at171_19 : jm_at 171 19 = some (.getfield 152) := rfl
theorem rv171g_152 : jm_rv 171 (.getfield 152) = (0, 12, 11, 0) := rfl
theorem at171_22 : jm_at 171 22 = some (.iaload) := rfl
theorem at171_23 : jm_at 171 23 = some (.putfield 155) := rfl
theorem rv171p_155 : jm_rv 171 (.putfield 155) = (0, 12, 13, 0) := rfl
theorem at171_26 : jm_at 171 26 = some (.return_) := rfl
theorem u171_8 {S : Option (Nat × (Nat → Int32))} {H : jm_H} {Q : Option Value → jm_H → Prop} {r0 : Nat} {x1 : Int32} (h0 : jm_tg H r0 = 13) (h1 : ¬ jm_R H r0 6 = 0) (h2 : ¬ ((jm_I (jm_pI H r0 12 x1) r0 11) < 0 ∨ jm_ln H (jm_R H r0 6) ≤ Int32.toNatClampNeg (jm_I (jm_pI H r0 12 x1) r0 11))) (h3 : ¬ (jm_R H r0 6) = 1) (h4 : jm_tg H (jm_R H r0 6) = 100) : jm_w S 1 171 8 [.ref r0, .int x1] [] H Q = Q none (jm_pI (jm_pI H r0 12 x1) r0 13 (jm_I (jm_pI H r0 12 x1) (jm_R H r0 6) (Int32.toNatClampNeg (jm_I (jm_pI H r0 12 x1) r0 11)))) := (js1 at171_8 rfl rfl rfl).trans ((js1 at171_9 rfl rfl rfl).trans ((jspI (H := H) at171_10 rv171p_149 rfl h0 rfl).trans ((js1 at171_13 rfl rfl rfl).trans ((js1 at171_14 rfl rfl rfl).trans ((jsgR (H := (jm_pI H r0 12 x1)) at171_15 rv171g_24 rfl h0 h1 rfl).trans ((js1 at171_18 rfl rfl rfl).trans ((jsgI (H := (jm_pI H r0 12 x1)) at171_19 rv171g_152 (Or.inl rfl) h0 rfl).trans ((jsial (H := (jm_pI H r0 12 x1)) at171_22 h3 h4 h2 rfl).trans ((jspI (H := (jm_pI H r0 12 x1)) at171_23 rv171p_155 rfl h0 rfl).trans (jsret_v at171_26 rfl))))))))))
theorem en171 {S : Option (Nat × (Nat → Int32))} {H : jm_H} {Q : Option Value → jm_H → Prop} {r0 : Nat} {x1 : Int32} : jm_c S 171 [.ref r0, .int x1] H Q = jm_w S 1 171 0 [.ref r0, .int x1] [] H Q := rfl
theorem at172_0 : jm_at 172 0 = some (.aload_n 0) := rfl
theorem at172_1 : jm_at 172 1 = some (.bipush 21) := rfl
theorem at172_3 : jm_at 172 3 = some (.invokevirtual 167) := rfl
theorem rv172i_167 : jm_rv 172 (.invokevirtual 167) = (2, 169, 0, 0) := rfl
theorem u172_0 {S : Option (Nat × (Nat → Int32))} {H : jm_H} {Q : Option Value → jm_H → Prop} {r0 : Nat} (h0 : jm_tg H r0 = 13) : jm_w S 5 172 0 [.ref r0] [] H Q = jm_c S 169 [.ref r0, .int (21 : Int32)] H (fun v G => jm_w S 5 172 6 [.ref r0] (v.toList ++ []) G Q) := (js1 at172_0 rfl rfl rfl).trans ((jscb at172_1 rfl rfl).trans (jscall (H := H) (as := [.ref r0, .int (21 : Int32)]) (q := []) at172_3 rfl rv172i_167 (jscutV rfl rfl rfl (Nat.le_of_ble_eq_true rfl) rfl h0) rfl (Nat.le_of_ble_eq_true rfl) rfl rfl))
theorem at172_6 : jm_at 172 6 = some (.ifCond .ne 9) := rfl
theorem u172_6 {S : Option (Nat × (Nat → Int32))} {H : jm_H} {Q : Option Value → jm_H → Prop} {r0 : Nat} {p0 : Int32} : jm_w S 5 172 6 [.ref r0] [.int p0] H Q = if ¬ p0 = 0 then jm_w S 5 172 15 [.ref r0] [] H Q else jm_w S 5 172 9 [.ref r0] [] H Q := jsif (P := ¬ p0 = 0) at172_6 rfl rfl
theorem at172_9 : jm_at 172 9 = some (.aload_n 0) := rfl
theorem at172_10 : jm_at 172 10 = some (.iconst 1) := rfl
theorem at172_11 : jm_at 172 11 = some (.invokevirtual 164) := rfl
theorem rv172i_164 : jm_rv 172 (.invokevirtual 164) = (2, 171, 0, 0) := rfl
theorem u172_9 {S : Option (Nat × (Nat → Int32))} {H : jm_H} {Q : Option Value → jm_H → Prop} {r0 : Nat} (h0 : jm_tg H r0 = 13) : jm_w S 5 172 9 [.ref r0] [] H Q = jm_c S 171 [.ref r0, .int (1 : Int32)] H (fun v G => jm_w S 5 172 14 [.ref r0] (v.toList ++ []) G Q) := (js1 at172_9 rfl rfl rfl).trans ((jsci at172_10 rfl rfl).trans (jscall (H := H) (as := [.ref r0, .int (1 : Int32)]) (q := []) at172_11 rfl rv172i_164 (jscutV rfl rfl rfl (Nat.le_of_ble_eq_true rfl) rfl h0) rfl (Nat.le_of_ble_eq_true rfl) rfl rfl))
theorem at172_14 : jm_at 172 14 = some (.return_) := rfl
theorem u172_14 {S : Option (Nat × (Nat → Int32))} {H : jm_H} {Q : Option Value → jm_H → Prop} {r0 : Nat} : jm_w S 5 172 14 [.ref r0] [] H Q = Q none H := jsret_v at172_14 rfl
theorem at172_15 : jm_at 172 15 = some (.aload_n 0) := rfl
theorem at172_16 : jm_at 172 16 = some (.getfield 176) := rfl
theorem rv172g_176 : jm_rv 172 (.getfield 176) = (0, 12, 18, 0) := rfl
theorem at172_19 : jm_at 172 19 = some (.bipush 8) := rfl
theorem at172_21 : jm_at 172 21 = some (.if_icmp .ne 9) := rfl
theorem u172_15 {S : Option (Nat × (Nat → Int32))} {H : jm_H} {Q : Option Value → jm_H → Prop} {r0 : Nat} (h0 : jm_tg H r0 = 13) : jm_w S 5 172 15 [.ref r0] [] H Q = if ¬ (jm_I H r0 18) = (8 : Int32) then jm_w S 5 172 30 [.ref r0] [] H Q else jm_w S 5 172 24 [.ref r0] [] H Q := (js1 at172_15 rfl rfl rfl).trans ((jsgI (H := H) at172_16 rv172g_176 (Or.inl rfl) h0 rfl).trans ((jscb at172_19 rfl rfl).trans (jsif (P := ¬ (jm_I H r0 18) = (8 : Int32)) at172_21 rfl rfl)))
theorem at172_24 : jm_at 172 24 = some (.aload_n 0) := rfl
theorem at172_25 : jm_at 172 25 = some (.iconst 2) := rfl
theorem at172_26 : jm_at 172 26 = some (.invokevirtual 164) := rfl
theorem u172_24 {S : Option (Nat × (Nat → Int32))} {H : jm_H} {Q : Option Value → jm_H → Prop} {r0 : Nat} (h0 : jm_tg H r0 = 13) : jm_w S 5 172 24 [.ref r0] [] H Q = jm_c S 171 [.ref r0, .int (2 : Int32)] H (fun v G => jm_w S 5 172 29 [.ref r0] (v.toList ++ []) G Q) := (js1 at172_24 rfl rfl rfl).trans ((jsci at172_25 rfl rfl).trans (jscall (H := H) (as := [.ref r0, .int (2 : Int32)]) (q := []) at172_26 rfl rv172i_164 (jscutV rfl rfl rfl (Nat.le_of_ble_eq_true rfl) rfl h0) rfl (Nat.le_of_ble_eq_true rfl) rfl rfl))
theorem at172_29 : jm_at 172 29 = some (.return_) := rfl
theorem u172_29 {S : Option (Nat × (Nat → Int32))} {H : jm_H} {Q : Option Value → jm_H → Prop} {r0 : Nat} : jm_w S 5 172 29 [.ref r0] [] H Q = Q none H := jsret_v at172_29 rfl
theorem at172_30 : jm_at 172 30 = some (.aload_n 0) := rfl
theorem at172_31 : jm_at 172 31 = some (.dup) := rfl
theorem at172_32 : jm_at 172 32 = some (.getfield 176) := rfl
theorem at172_35 : jm_at 172 35 = some (.iconst 1) := rfl
theorem at172_36 : jm_at 172 36 = some (.iadd) := rfl
theorem at172_37 : jm_at 172 37 = some (.putfield 176) := rfl
theorem rv172p_176 : jm_rv 172 (.putfield 176) = (0, 12, 18, 0) := rfl
theorem at172_40 : jm_at 172 40 = some (.aload_n 0) := rfl
theorem at172_41 : jm_at 172 41 = some (.invokevirtual 170) := rfl
theorem rv172i_170 : jm_rv 172 (.invokevirtual 170) = (2, 170, 0, 0) := rfl
theorem u172_30 {S : Option (Nat × (Nat → Int32))} {H : jm_H} {Q : Option Value → jm_H → Prop} {r0 : Nat} (h0 : jm_tg H r0 = 13) : jm_w S 5 172 30 [.ref r0] [] H Q = jm_c S 170 [.ref r0] (jm_pI H r0 18 ((jm_I H r0 18) + (1 : Int32))) (fun v G => jm_w S 5 172 44 [.ref r0] (v.toList ++ []) G Q) := (js1 at172_30 rfl rfl rfl).trans ((js0 at172_31 rfl rfl rfl).trans ((jsgI (H := H) at172_32 rv172g_176 (Or.inl rfl) h0 rfl).trans ((jsci at172_35 rfl rfl).trans ((js0 at172_36 rfl rfl rfl).trans ((jspI (H := H) at172_37 rv172p_176 rfl h0 rfl).trans ((js1 at172_40 rfl rfl rfl).trans (jscall (H := (jm_pI H r0 18 ((jm_I H r0 18) + (1 : Int32)))) (as := [.ref r0]) (q := []) at172_41 rfl rv172i_170 (jscutV rfl rfl rfl (Nat.le_of_ble_eq_true rfl) rfl h0) rfl (Nat.le_of_ble_eq_true rfl) rfl rfl)))))))
theorem at172_44 : jm_at 172 44 = some (.aload_n 0) := rfl
theorem at172_45 : jm_at 172 45 = some (.iconst 1) := rfl
theorem at172_46 : jm_at 172 46 = some (.invokevirtual 179) := rfl
theorem rv172i_179 : jm_rv 172 (.invokevirtual 179) = (2, 168, 0, 0) := rfl
theorem u172_44 {S : Option (Nat × (Nat → Int32))} {H : jm_H} {Q : Option Value → jm_H → Prop} {r0 : Nat} (h0 : jm_tg H r0 = 13) : jm_w S 5 172 44 [.ref r0] [] H Q = jm_c S 168 [.ref r0, .int (1 : Int32)] H (fun v G => jm_w S 5 172 49 [.ref r0] (v.toList ++ []) G Q) := (js1 at172_44 rfl rfl rfl).trans ((jsci at172_45 rfl rfl).trans (jscall (H := H) (as := [.ref r0, .int (1 : Int32)]) (q := []) at172_46 rfl rv172i_179 (jscutV rfl rfl rfl (Nat.le_of_ble_eq_true rfl) rfl h0) rfl (Nat.le_of_ble_eq_true rfl) rfl rfl))
theorem at172_49 : jm_at 172 49 = some (.aload_n 0) := rfl
theorem at172_50 : jm_at 172 50 = some (.invokevirtual 209) := rfl
theorem rv172i_209 : jm_rv 172 (.invokevirtual 209) = (2, 173, 0, 0) := rfl
theorem u172_49 {S : Option (Nat × (Nat → Int32))} {H : jm_H} {Q : Option Value → jm_H → Prop} {r0 : Nat} (h0 : jm_tg H r0 = 13) : jm_w S 5 172 49 [.ref r0] [] H Q = jm_c S 173 [.ref r0] H (fun v G => jm_w S 5 172 53 [.ref r0] (v.toList ++ []) G Q) := (js1 at172_49 rfl rfl rfl).trans (jscall (H := H) (as := [.ref r0]) (q := []) at172_50 rfl rv172i_209 (jscutV rfl rfl rfl (Nat.le_of_ble_eq_true rfl) rfl h0) rfl (Nat.le_of_ble_eq_true rfl) rfl rfl)
theorem at172_53 : jm_at 172 53 = some (.aload_n 0) := rfl
theorem at172_54 : jm_at 172 54 = some (.iconst 4) := rfl
theorem at172_55 : jm_at 172 55 = some (.invokevirtual 179) := rfl
theorem u172_53 {S : Option (Nat × (Nat → Int32))} {H : jm_H} {Q : Option Value → jm_H → Prop} {r0 : Nat} (h0 : jm_tg H r0 = 13) : jm_w S 5 172 53 [.ref r0] [] H Q = jm_c S 168 [.ref r0, .int (4 : Int32)] H (fun v G => jm_w S 5 172 58 [.ref r0] (v.toList ++ []) G Q) := (js1 at172_53 rfl rfl rfl).trans ((jsci at172_54 rfl rfl).trans (jscall (H := H) (as := [.ref r0, .int (4 : Int32)]) (q := []) at172_55 rfl rv172i_179 (jscutV rfl rfl rfl (Nat.le_of_ble_eq_true rfl) rfl h0) rfl (Nat.le_of_ble_eq_true rfl) rfl rfl))
theorem at172_58 : jm_at 172 58 = some (.return_) := rfl
theorem u172_58 {S : Option (Nat × (Nat → Int32))} {H : jm_H} {Q : Option Value → jm_H → Prop} {r0 : Nat} : jm_w S 5 172 58 [.ref r0] [] H Q = Q none H := jsret_v at172_58 rfl
theorem en172 {S : Option (Nat × (Nat → Int32))} {H : jm_H} {Q : Option Value → jm_H → Prop} {r0 : Nat} : jm_c S 172 [.ref r0] H Q = jm_w S 5 172 0 [.ref r0] [] H Q := rfl
theorem at173_0 : jm_at 173 0 = some (.iconst 1) := rfl
theorem at173_1 : jm_at 173 1 = some (.istore_n 1) := rfl
theorem at173_2 : jm_at 173 2 = some (.iconst 1) := rfl
theorem at173_3 : jm_at 173 3 = some (.istore_n 2) := rfl
theorem at173_4 : jm_at 173 4 = some (.aload_n 0) := rfl
theorem at173_5 : jm_at 173 5 = some (.iconst 0) := rfl
theorem at173_6 : jm_at 173 6 = some (.putfield 212) := rfl
theorem rv173p_212 : jm_rv 173 (.putfield 212) = (0, 12, 31, 0) := rfl
theorem u173_0 {S : Option (Nat × (Nat → Int32))} {H : jm_H} {Q : Option Value → jm_H → Prop} {r0 : Nat} (h0 : jm_tg H r0 = 13) : jm_w S 4 173 0 [.ref r0, .null, .null, .null] [] H Q = jm_w S 4 173 9 [.ref r0, .int (1 : Int32), .int (1 : Int32), .null] [] (jm_pI H r0 31 (0 : Int32)) Q := (jsci at173_0 rfl rfl).trans ((js1 at173_1 rfl rfl rfl).trans ((jsci at173_2 rfl rfl).trans ((js1 at173_3 rfl rfl rfl).trans ((js1 at173_4 rfl rfl rfl).trans ((jsci at173_5 rfl rfl).trans (jspI (H := H) at173_6 rv173p_212 rfl h0 rfl))))))
theorem at173_9 : jm_at 173 9 = some (.aload_n 0) := rfl
theorem at173_10 : jm_at 173 10 = some (.getfield 149) := rfl
theorem rv173g_149 : jm_rv 173 (.getfield 149) = (0, 12, 12, 0) := rfl
theorem at173_13 : jm_at 173 13 = some (.ifCond .ne 295) := rfl
theorem u173_9 {S : Option (Nat × (Nat → Int32))} {H : jm_H} {Q : Option Value → jm_H → Prop} {r0 : Nat} {x1 x2 : Int32} {w3 : Value} (h0 : jm_tg H r0 = 13) : jm_w S 4 173 9 [.ref r0, .int x1, .int x2, w3] [] H Q = if ¬ (jm_I H r0 12) = 0 then jm_w S 4 173 308 [.ref r0, .int x1, .int x2, w3] [] H Q else jm_w S 4 173 16 [.ref r0, .int x1, .int x2, w3] [] H Q := (js1 at173_9 rfl rfl rfl).trans ((jsgI (H := H) at173_10 rv173g_149 (Or.inl rfl) h0 rfl).trans (jsif (P := ¬ (jm_I H r0 12) = 0) at173_13 rfl rfl))
theorem at173_16 : jm_at 173 16 = some (.iload_n 1) := rfl
theorem at173_17 : jm_at 173 17 = some (.ifCond .eq 25) := rfl
theorem u173_16 {S : Option (Nat × (Nat → Int32))} {H : jm_H} {Q : Option Value → jm_H → Prop} {r0 : Nat} {x1 x2 : Int32} {w3 : Value} : jm_w S 4 173 16 [.ref r0, .int x1, .int x2, w3] [] H Q = if x1 = 0 then jm_w S 4 173 42 [.ref r0, .int x1, .int x2, w3] [] H Q else jm_w S 4 173 20 [.ref r0, .int x1, .int x2, w3] [] H Q := (js1 at173_16 rfl rfl rfl).trans (jsif (P := x1 = 0) at173_17 rfl rfl)
theorem at173_20 : jm_at 173 20 = some (.iload_n 2) := rfl
theorem at173_21 : jm_at 173 21 = some (.ifCond .eq 21) := rfl
theorem u173_20 {S : Option (Nat × (Nat → Int32))} {H : jm_H} {Q : Option Value → jm_H → Prop} {r0 : Nat} {x1 x2 : Int32} {w3 : Value} : jm_w S 4 173 20 [.ref r0, .int x1, .int x2, w3] [] H Q = if x2 = 0 then jm_w S 4 173 42 [.ref r0, .int x1, .int x2, w3] [] H Q else jm_w S 4 173 24 [.ref r0, .int x1, .int x2, w3] [] H Q := (js1 at173_20 rfl rfl rfl).trans (jsif (P := x2 = 0) at173_21 rfl rfl)
theorem at173_24 : jm_at 173 24 = some (.aload_n 0) := rfl
theorem at173_25 : jm_at 173 25 = some (.bipush 6) := rfl
theorem at173_27 : jm_at 173 27 = some (.invokevirtual 167) := rfl
theorem rv173i_167 : jm_rv 173 (.invokevirtual 167) = (2, 169, 0, 0) := rfl
theorem u173_24 {S : Option (Nat × (Nat → Int32))} {H : jm_H} {Q : Option Value → jm_H → Prop} {r0 : Nat} {x1 x2 : Int32} {w3 : Value} (h0 : jm_tg H r0 = 13) : jm_w S 4 173 24 [.ref r0, .int x1, .int x2, w3] [] H Q = jm_c S 169 [.ref r0, .int (6 : Int32)] H (fun v G => jm_w S 4 173 30 [.ref r0, .int x1, .int x2, w3] (v.toList ++ []) G Q) := (js1 at173_24 rfl rfl rfl).trans ((jscb at173_25 rfl rfl).trans (jscall (H := H) (as := [.ref r0, .int (6 : Int32)]) (q := []) at173_27 rfl rv173i_167 (jscutV rfl rfl rfl (Nat.le_of_ble_eq_true rfl) rfl h0) rfl (Nat.le_of_ble_eq_true rfl) rfl rfl))
theorem at173_30 : jm_at 173 30 = some (.ifCond .eq 12) := rfl
theorem u173_30 {S : Option (Nat × (Nat → Int32))} {H : jm_H} {Q : Option Value → jm_H → Prop} {r0 : Nat} {x1 x2 p0 : Int32} {w3 : Value} : jm_w S 4 173 30 [.ref r0, .int x1, .int x2, w3] [.int p0] H Q = if p0 = 0 then jm_w S 4 173 42 [.ref r0, .int x1, .int x2, w3] [] H Q else jm_w S 4 173 33 [.ref r0, .int x1, .int x2, w3] [] H Q := jsif (P := p0 = 0) at173_30 rfl rfl
theorem at173_33 : jm_at 173 33 = some (.aload_n 0) := rfl
theorem at173_34 : jm_at 173 34 = some (.invokevirtual 170) := rfl
theorem rv173i_170 : jm_rv 173 (.invokevirtual 170) = (2, 170, 0, 0) := rfl
theorem u173_33 {S : Option (Nat × (Nat → Int32))} {H : jm_H} {Q : Option Value → jm_H → Prop} {r0 : Nat} {x1 x2 : Int32} {w3 : Value} (h0 : jm_tg H r0 = 13) : jm_w S 4 173 33 [.ref r0, .int x1, .int x2, w3] [] H Q = jm_c S 170 [.ref r0] H (fun v G => jm_w S 4 173 37 [.ref r0, .int x1, .int x2, w3] (v.toList ++ []) G Q) := (js1 at173_33 rfl rfl rfl).trans (jscall (H := H) (as := [.ref r0]) (q := []) at173_34 rfl rv173i_170 (jscutV rfl rfl rfl (Nat.le_of_ble_eq_true rfl) rfl h0) rfl (Nat.le_of_ble_eq_true rfl) rfl rfl)
theorem at173_37 : jm_at 173 37 = some (.iconst 0) := rfl
theorem at173_38 : jm_at 173 38 = some (.istore_n 2) := rfl
theorem at173_39 : jm_at 173 39 = some (.goto (-30)) := rfl
theorem u173_37 {S : Option (Nat × (Nat → Int32))} {H : jm_H} {Q : Option Value → jm_H → Prop} {r0 : Nat} {x1 x2 : Int32} {w3 : Value} : jm_w S 4 173 37 [.ref r0, .int x1, .int x2, w3] [] H Q = jm_w S 4 173 9 [.ref r0, .int x1, .int (0 : Int32), w3] [] H Q := (jsci at173_37 rfl rfl).trans ((js1 at173_38 rfl rfl rfl).trans (js2 at173_39 rfl rfl))
theorem at173_42 : jm_at 173 42 = some (.iload_n 1) := rfl
theorem at173_43 : jm_at 173 43 = some (.ifCond .eq 22) := rfl
theorem u173_42 {S : Option (Nat × (Nat → Int32))} {H : jm_H} {Q : Option Value → jm_H → Prop} {r0 : Nat} {x1 x2 : Int32} {w3 : Value} : jm_w S 4 173 42 [.ref r0, .int x1, .int x2, w3] [] H Q = if x1 = 0 then jm_w S 4 173 65 [.ref r0, .int x1, .int x2, w3] [] H Q else jm_w S 4 173 46 [.ref r0, .int x1, .int x2, w3] [] H Q := (js1 at173_42 rfl rfl rfl).trans (jsif (P := x1 = 0) at173_43 rfl rfl)
theorem at173_46 : jm_at 173 46 = some (.aload_n 0) := rfl
theorem at173_47 : jm_at 173 47 = some (.bipush 9) := rfl
theorem at173_49 : jm_at 173 49 = some (.invokevirtual 167) := rfl
theorem u173_46 {S : Option (Nat × (Nat → Int32))} {H : jm_H} {Q : Option Value → jm_H → Prop} {r0 : Nat} {x1 x2 : Int32} {w3 : Value} (h0 : jm_tg H r0 = 13) : jm_w S 4 173 46 [.ref r0, .int x1, .int x2, w3] [] H Q = jm_c S 169 [.ref r0, .int (9 : Int32)] H (fun v G => jm_w S 4 173 52 [.ref r0, .int x1, .int x2, w3] (v.toList ++ []) G Q) := (js1 at173_46 rfl rfl rfl).trans ((jscb at173_47 rfl rfl).trans (jscall (H := H) (as := [.ref r0, .int (9 : Int32)]) (q := []) at173_49 rfl rv173i_167 (jscutV rfl rfl rfl (Nat.le_of_ble_eq_true rfl) rfl h0) rfl (Nat.le_of_ble_eq_true rfl) rfl rfl))
theorem at173_52 : jm_at 173 52 = some (.ifCond .eq 13) := rfl
theorem u173_52 {S : Option (Nat × (Nat → Int32))} {H : jm_H} {Q : Option Value → jm_H → Prop} {r0 : Nat} {x1 x2 p0 : Int32} {w3 : Value} : jm_w S 4 173 52 [.ref r0, .int x1, .int x2, w3] [.int p0] H Q = if p0 = 0 then jm_w S 4 173 65 [.ref r0, .int x1, .int x2, w3] [] H Q else jm_w S 4 173 55 [.ref r0, .int x1, .int x2, w3] [] H Q := jsif (P := p0 = 0) at173_52 rfl rfl
theorem at173_55 : jm_at 173 55 = some (.aload_n 0) := rfl
theorem at173_56 : jm_at 173 56 = some (.iconst 0) := rfl
theorem at173_57 : jm_at 173 57 = some (.invokevirtual 215) := rfl
theorem rv173i_215 : jm_rv 173 (.invokevirtual 215) = (2, 174, 0, 0) := rfl
theorem u173_55 {S : Option (Nat × (Nat → Int32))} {H : jm_H} {Q : Option Value → jm_H → Prop} {r0 : Nat} {x1 x2 : Int32} {w3 : Value} (h0 : jm_tg H r0 = 13) : jm_w S 4 173 55 [.ref r0, .int x1, .int x2, w3] [] H Q = jm_c S 174 [.ref r0, .int (0 : Int32)] H (fun v G => jm_w S 4 173 60 [.ref r0, .int x1, .int x2, w3] (v.toList ++ []) G Q) := (js1 at173_55 rfl rfl rfl).trans ((jsci at173_56 rfl rfl).trans (jscall (H := H) (as := [.ref r0, .int (0 : Int32)]) (q := []) at173_57 rfl rv173i_215 (jscutV rfl rfl rfl (Nat.le_of_ble_eq_true rfl) rfl h0) rfl (Nat.le_of_ble_eq_true rfl) rfl rfl))
theorem at173_60 : jm_at 173 60 = some (.iconst 1) := rfl
theorem at173_61 : jm_at 173 61 = some (.istore_n 2) := rfl
theorem at173_62 : jm_at 173 62 = some (.goto (-53)) := rfl
theorem u173_60 {S : Option (Nat × (Nat → Int32))} {H : jm_H} {Q : Option Value → jm_H → Prop} {r0 : Nat} {x1 x2 : Int32} {w3 : Value} : jm_w S 4 173 60 [.ref r0, .int x1, .int x2, w3] [] H Q = jm_w S 4 173 9 [.ref r0, .int x1, .int (1 : Int32), w3] [] H Q := (jsci at173_60 rfl rfl).trans ((js1 at173_61 rfl rfl rfl).trans (js2 at173_62 rfl rfl))
theorem at173_65 : jm_at 173 65 = some (.iload_n 1) := rfl
theorem at173_66 : jm_at 173 66 = some (.ifCond .eq 62) := rfl
theorem u173_65 {S : Option (Nat × (Nat → Int32))} {H : jm_H} {Q : Option Value → jm_H → Prop} {r0 : Nat} {x1 x2 : Int32} {w3 : Value} : jm_w S 4 173 65 [.ref r0, .int x1, .int x2, w3] [] H Q = if x1 = 0 then jm_w S 4 173 128 [.ref r0, .int x1, .int x2, w3] [] H Q else jm_w S 4 173 69 [.ref r0, .int x1, .int x2, w3] [] H Q := (js1 at173_65 rfl rfl rfl).trans (jsif (P := x1 = 0) at173_66 rfl rfl)
theorem at173_69 : jm_at 173 69 = some (.aload_n 0) := rfl
theorem at173_70 : jm_at 173 70 = some (.bipush 22) := rfl
theorem at173_72 : jm_at 173 72 = some (.invokevirtual 167) := rfl
theorem u173_69 {S : Option (Nat × (Nat → Int32))} {H : jm_H} {Q : Option Value → jm_H → Prop} {r0 : Nat} {x1 x2 : Int32} {w3 : Value} (h0 : jm_tg H r0 = 13) : jm_w S 4 173 69 [.ref r0, .int x1, .int x2, w3] [] H Q = jm_c S 169 [.ref r0, .int (22 : Int32)] H (fun v G => jm_w S 4 173 75 [.ref r0, .int x1, .int x2, w3] (v.toList ++ []) G Q) := (js1 at173_69 rfl rfl rfl).trans ((jscb at173_70 rfl rfl).trans (jscall (H := H) (as := [.ref r0, .int (22 : Int32)]) (q := []) at173_72 rfl rv173i_167 (jscutV rfl rfl rfl (Nat.le_of_ble_eq_true rfl) rfl h0) rfl (Nat.le_of_ble_eq_true rfl) rfl rfl))
theorem at173_75 : jm_at 173 75 = some (.ifCond .ne 12) := rfl
theorem u173_75 {S : Option (Nat × (Nat → Int32))} {H : jm_H} {Q : Option Value → jm_H → Prop} {r0 : Nat} {x1 x2 p0 : Int32} {w3 : Value} : jm_w S 4 173 75 [.ref r0, .int x1, .int x2, w3] [.int p0] H Q = if ¬ p0 = 0 then jm_w S 4 173 87 [.ref r0, .int x1, .int x2, w3] [] H Q else jm_w S 4 173 78 [.ref r0, .int x1, .int x2, w3] [] H Q := jsif (P := ¬ p0 = 0) at173_75 rfl rfl
theorem at173_78 : jm_at 173 78 = some (.aload_n 0) := rfl
theorem at173_79 : jm_at 173 79 = some (.bipush 23) := rfl
theorem at173_81 : jm_at 173 81 = some (.invokevirtual 167) := rfl
theorem u173_78 {S : Option (Nat × (Nat → Int32))} {H : jm_H} {Q : Option Value → jm_H → Prop} {r0 : Nat} {x1 x2 : Int32} {w3 : Value} (h0 : jm_tg H r0 = 13) : jm_w S 4 173 78 [.ref r0, .int x1, .int x2, w3] [] H Q = jm_c S 169 [.ref r0, .int (23 : Int32)] H (fun v G => jm_w S 4 173 84 [.ref r0, .int x1, .int x2, w3] (v.toList ++ []) G Q) := (js1 at173_78 rfl rfl rfl).trans ((jscb at173_79 rfl rfl).trans (jscall (H := H) (as := [.ref r0, .int (23 : Int32)]) (q := []) at173_81 rfl rv173i_167 (jscutV rfl rfl rfl (Nat.le_of_ble_eq_true rfl) rfl h0) rfl (Nat.le_of_ble_eq_true rfl) rfl rfl))
theorem at173_84 : jm_at 173 84 = some (.ifCond .eq 44) := rfl
theorem u173_84 {S : Option (Nat × (Nat → Int32))} {H : jm_H} {Q : Option Value → jm_H → Prop} {r0 : Nat} {x1 x2 p0 : Int32} {w3 : Value} : jm_w S 4 173 84 [.ref r0, .int x1, .int x2, w3] [.int p0] H Q = if p0 = 0 then jm_w S 4 173 128 [.ref r0, .int x1, .int x2, w3] [] H Q else jm_w S 4 173 87 [.ref r0, .int x1, .int x2, w3] [] H Q := jsif (P := p0 = 0) at173_84 rfl rfl
theorem at173_87 : jm_at 173 87 = some (.aload_n 0) := rfl
theorem at173_88 : jm_at 173 88 = some (.getfield 20) := rfl
theorem rv173g_20 : jm_rv 173 (.getfield 20) = (0, 12, 5, 0) := rfl
theorem at173_91 : jm_at 173 91 = some (.aload_n 0) := rfl
theorem at173_92 : jm_at 173 92 = some (.getfield 152) := rfl
theorem rv173g_152 : jm_rv 173 (.getfield 152) = (0, 12, 11, 0) := rfl
theorem at173_95 : jm_at 173 95 = some (.iaload) := rfl
theorem at173_96 : jm_at 173 96 = some (.istore_n 3) := rfl
theorem at173_97 : jm_at 173 97 = some (.aload_n 0) := rfl
theorem at173_98 : jm_at 173 98 = some (.invokevirtual 170) := rfl
theorem u173_87 {S : Option (Nat × (Nat → Int32))} {H : jm_H} {Q : Option Value → jm_H → Prop} {r0 : Nat} {x1 x2 : Int32} {w3 : Value} (h0 : jm_tg H r0 = 13) (h1 : ¬ jm_R H r0 5 = 0) (h2 : ¬ ((jm_I H r0 11) < 0 ∨ jm_ln H (jm_R H r0 5) ≤ Int32.toNatClampNeg (jm_I H r0 11))) (h3 : ¬ (jm_R H r0 5) = 1) (h4 : jm_tg H (jm_R H r0 5) = 100) : jm_w S 4 173 87 [.ref r0, .int x1, .int x2, w3] [] H Q = jm_c S 170 [.ref r0] H (fun v G => jm_w S 4 173 101 [.ref r0, .int x1, .int x2, .int (jm_I H (jm_R H r0 5) (Int32.toNatClampNeg (jm_I H r0 11)))] (v.toList ++ []) G Q) := (js1 at173_87 rfl rfl rfl).trans ((jsgR (H := H) at173_88 rv173g_20 rfl h0 h1 rfl).trans ((js1 at173_91 rfl rfl rfl).trans ((jsgI (H := H) at173_92 rv173g_152 (Or.inl rfl) h0 rfl).trans ((jsial (H := H) at173_95 h3 h4 h2 rfl).trans ((js1 at173_96 rfl rfl rfl).trans ((js1 at173_97 rfl rfl rfl).trans (jscall (H := H) (as := [.ref r0]) (q := []) at173_98 rfl rv173i_170 (jscutV rfl rfl rfl (Nat.le_of_ble_eq_true rfl) rfl h0) rfl (Nat.le_of_ble_eq_true rfl) rfl rfl)))))))
theorem at173_101 : jm_at 173 101 = some (.aload_n 0) := rfl
theorem at173_102 : jm_at 173 102 = some (.bipush 9) := rfl
theorem at173_104 : jm_at 173 104 = some (.invokevirtual 167) := rfl
theorem u173_101 {S : Option (Nat × (Nat → Int32))} {H : jm_H} {Q : Option Value → jm_H → Prop} {r0 : Nat} {x1 x2 x3 : Int32} (h0 : jm_tg H r0 = 13) : jm_w S 4 173 101 [.ref r0, .int x1, .int x2, .int x3] [] H Q = jm_c S 169 [.ref r0, .int (9 : Int32)] H (fun v G => jm_w S 4 173 107 [.ref r0, .int x1, .int x2, .int x3] (v.toList ++ []) G Q) := (js1 at173_101 rfl rfl rfl).trans ((jscb at173_102 rfl rfl).trans (jscall (H := H) (as := [.ref r0, .int (9 : Int32)]) (q := []) at173_104 rfl rv173i_167 (jscutV rfl rfl rfl (Nat.le_of_ble_eq_true rfl) rfl h0) rfl (Nat.le_of_ble_eq_true rfl) rfl rfl))
theorem at173_107 : jm_at 173 107 = some (.ifCond .eq 11) := rfl
theorem u173_107 {S : Option (Nat × (Nat → Int32))} {H : jm_H} {Q : Option Value → jm_H → Prop} {r0 : Nat} {x1 x2 x3 p0 : Int32} : jm_w S 4 173 107 [.ref r0, .int x1, .int x2, .int x3] [.int p0] H Q = if p0 = 0 then jm_w S 4 173 118 [.ref r0, .int x1, .int x2, .int x3] [] H Q else jm_w S 4 173 110 [.ref r0, .int x1, .int x2, .int x3] [] H Q := jsif (P := p0 = 0) at173_107 rfl rfl
theorem at173_110 : jm_at 173 110 = some (.aload_n 0) := rfl
theorem at173_111 : jm_at 173 111 = some (.iload_n 3) := rfl
theorem at173_112 : jm_at 173 112 = some (.invokevirtual 215) := rfl
theorem u173_110 {S : Option (Nat × (Nat → Int32))} {H : jm_H} {Q : Option Value → jm_H → Prop} {r0 : Nat} {x1 x2 x3 : Int32} (h0 : jm_tg H r0 = 13) : jm_w S 4 173 110 [.ref r0, .int x1, .int x2, .int x3] [] H Q = jm_c S 174 [.ref r0, .int x3] H (fun v G => jm_w S 4 173 115 [.ref r0, .int x1, .int x2, .int x3] (v.toList ++ []) G Q) := (js1 at173_110 rfl rfl rfl).trans ((js1 at173_111 rfl rfl rfl).trans (jscall (H := H) (as := [.ref r0, .int x3]) (q := []) at173_112 rfl rv173i_215 (jscutV rfl rfl rfl (Nat.le_of_ble_eq_true rfl) rfl h0) rfl (Nat.le_of_ble_eq_true rfl) rfl rfl))
theorem at173_115 : jm_at 173 115 = some (.goto 8) := rfl
theorem u173_115 {S : Option (Nat × (Nat → Int32))} {H : jm_H} {Q : Option Value → jm_H → Prop} {r0 : Nat} {x1 x2 x3 : Int32} : jm_w S 4 173 115 [.ref r0, .int x1, .int x2, .int x3] [] H Q = jm_w S 4 173 123 [.ref r0, .int x1, .int x2, .int x3] [] H Q := js2 at173_115 rfl rfl
theorem at173_118 : jm_at 173 118 = some (.aload_n 0) := rfl
theorem at173_119 : jm_at 173 119 = some (.iconst 1) := rfl
theorem at173_120 : jm_at 173 120 = some (.invokevirtual 164) := rfl
theorem rv173i_164 : jm_rv 173 (.invokevirtual 164) = (2, 171, 0, 0) := rfl
theorem u173_118 {S : Option (Nat × (Nat → Int32))} {H : jm_H} {Q : Option Value → jm_H → Prop} {r0 : Nat} {x1 x2 x3 : Int32} (h0 : jm_tg H r0 = 13) : jm_w S 4 173 118 [.ref r0, .int x1, .int x2, .int x3] [] H Q = jm_c S 171 [.ref r0, .int (1 : Int32)] H (fun v G => jm_w S 4 173 123 [.ref r0, .int x1, .int x2, .int x3] (v.toList ++ []) G Q) := (js1 at173_118 rfl rfl rfl).trans ((jsci at173_119 rfl rfl).trans (jscall (H := H) (as := [.ref r0, .int (1 : Int32)]) (q := []) at173_120 rfl rv173i_164 (jscutV rfl rfl rfl (Nat.le_of_ble_eq_true rfl) rfl h0) rfl (Nat.le_of_ble_eq_true rfl) rfl rfl))
theorem at173_123 : jm_at 173 123 = some (.iconst 1) := rfl
theorem at173_124 : jm_at 173 124 = some (.istore_n 2) := rfl
theorem at173_125 : jm_at 173 125 = some (.goto (-116)) := rfl
theorem u173_123 {S : Option (Nat × (Nat → Int32))} {H : jm_H} {Q : Option Value → jm_H → Prop} {r0 : Nat} {x1 x2 x3 : Int32} : jm_w S 4 173 123 [.ref r0, .int x1, .int x2, .int x3] [] H Q = jm_w S 4 173 9 [.ref r0, .int x1, .int (1 : Int32), .int x3] [] H Q := (jsci at173_123 rfl rfl).trans ((js1 at173_124 rfl rfl rfl).trans (js2 at173_125 rfl rfl))
theorem at173_128 : jm_at 173 128 = some (.iload_n 1) := rfl
theorem at173_129 : jm_at 173 129 = some (.ifCond .eq 36) := rfl
theorem u173_128 {S : Option (Nat × (Nat → Int32))} {H : jm_H} {Q : Option Value → jm_H → Prop} {r0 : Nat} {x1 x2 : Int32} {w3 : Value} : jm_w S 4 173 128 [.ref r0, .int x1, .int x2, w3] [] H Q = if x1 = 0 then jm_w S 4 173 165 [.ref r0, .int x1, .int x2, w3] [] H Q else jm_w S 4 173 132 [.ref r0, .int x1, .int x2, w3] [] H Q := (js1 at173_128 rfl rfl rfl).trans (jsif (P := x1 = 0) at173_129 rfl rfl)
theorem at173_132 : jm_at 173 132 = some (.aload_n 0) := rfl
theorem at173_133 : jm_at 173 133 = some (.iconst 2) := rfl
theorem at173_134 : jm_at 173 134 = some (.invokevirtual 167) := rfl
theorem u173_132 {S : Option (Nat × (Nat → Int32))} {H : jm_H} {Q : Option Value → jm_H → Prop} {r0 : Nat} {x1 x2 : Int32} {w3 : Value} (h0 : jm_tg H r0 = 13) : jm_w S 4 173 132 [.ref r0, .int x1, .int x2, w3] [] H Q = jm_c S 169 [.ref r0, .int (2 : Int32)] H (fun v G => jm_w S 4 173 137 [.ref r0, .int x1, .int x2, w3] (v.toList ++ []) G Q) := (js1 at173_132 rfl rfl rfl).trans ((jsci at173_133 rfl rfl).trans (jscall (H := H) (as := [.ref r0, .int (2 : Int32)]) (q := []) at173_134 rfl rv173i_167 (jscutV rfl rfl rfl (Nat.le_of_ble_eq_true rfl) rfl h0) rfl (Nat.le_of_ble_eq_true rfl) rfl rfl))
theorem at173_137 : jm_at 173 137 = some (.ifCond .ne 11) := rfl
theorem u173_137 {S : Option (Nat × (Nat → Int32))} {H : jm_H} {Q : Option Value → jm_H → Prop} {r0 : Nat} {x1 x2 p0 : Int32} {w3 : Value} : jm_w S 4 173 137 [.ref r0, .int x1, .int x2, w3] [.int p0] H Q = if ¬ p0 = 0 then jm_w S 4 173 148 [.ref r0, .int x1, .int x2, w3] [] H Q else jm_w S 4 173 140 [.ref r0, .int x1, .int x2, w3] [] H Q := jsif (P := ¬ p0 = 0) at173_137 rfl rfl
theorem at173_140 : jm_at 173 140 = some (.aload_n 0) := rfl
theorem at173_141 : jm_at 173 141 = some (.iconst 1) := rfl
theorem at173_142 : jm_at 173 142 = some (.invokevirtual 167) := rfl
theorem u173_140 {S : Option (Nat × (Nat → Int32))} {H : jm_H} {Q : Option Value → jm_H → Prop} {r0 : Nat} {x1 x2 : Int32} {w3 : Value} (h0 : jm_tg H r0 = 13) : jm_w S 4 173 140 [.ref r0, .int x1, .int x2, w3] [] H Q = jm_c S 169 [.ref r0, .int (1 : Int32)] H (fun v G => jm_w S 4 173 145 [.ref r0, .int x1, .int x2, w3] (v.toList ++ []) G Q) := (js1 at173_140 rfl rfl rfl).trans ((jsci at173_141 rfl rfl).trans (jscall (H := H) (as := [.ref r0, .int (1 : Int32)]) (q := []) at173_142 rfl rv173i_167 (jscutV rfl rfl rfl (Nat.le_of_ble_eq_true rfl) rfl h0) rfl (Nat.le_of_ble_eq_true rfl) rfl rfl))
theorem at173_145 : jm_at 173 145 = some (.ifCond .eq 10) := rfl
theorem u173_145 {S : Option (Nat × (Nat → Int32))} {H : jm_H} {Q : Option Value → jm_H → Prop} {r0 : Nat} {x1 x2 p0 : Int32} {w3 : Value} : jm_w S 4 173 145 [.ref r0, .int x1, .int x2, w3] [.int p0] H Q = if p0 = 0 then jm_w S 4 173 155 [.ref r0, .int x1, .int x2, w3] [] H Q else jm_w S 4 173 148 [.ref r0, .int x1, .int x2, w3] [] H Q := jsif (P := p0 = 0) at173_145 rfl rfl
theorem at173_148 : jm_at 173 148 = some (.aload_n 0) := rfl
theorem at173_149 : jm_at 173 149 = some (.invokevirtual 170) := rfl
theorem u173_148 {S : Option (Nat × (Nat → Int32))} {H : jm_H} {Q : Option Value → jm_H → Prop} {r0 : Nat} {x1 x2 : Int32} {w3 : Value} (h0 : jm_tg H r0 = 13) : jm_w S 4 173 148 [.ref r0, .int x1, .int x2, w3] [] H Q = jm_c S 170 [.ref r0] H (fun v G => jm_w S 4 173 152 [.ref r0, .int x1, .int x2, w3] (v.toList ++ []) G Q) := (js1 at173_148 rfl rfl rfl).trans (jscall (H := H) (as := [.ref r0]) (q := []) at173_149 rfl rv173i_170 (jscutV rfl rfl rfl (Nat.le_of_ble_eq_true rfl) rfl h0) rfl (Nat.le_of_ble_eq_true rfl) rfl rfl)
theorem at173_152 : jm_at 173 152 = some (.goto 8) := rfl
theorem u173_152 {S : Option (Nat × (Nat → Int32))} {H : jm_H} {Q : Option Value → jm_H → Prop} {r0 : Nat} {x1 x2 : Int32} {w3 : Value} : jm_w S 4 173 152 [.ref r0, .int x1, .int x2, w3] [] H Q = jm_w S 4 173 160 [.ref r0, .int x1, .int x2, w3] [] H Q := js2 at173_152 rfl rfl
theorem at173_155 : jm_at 173 155 = some (.aload_n 0) := rfl
theorem at173_156 : jm_at 173 156 = some (.iconst 1) := rfl
theorem at173_157 : jm_at 173 157 = some (.invokevirtual 164) := rfl
theorem u173_155 {S : Option (Nat × (Nat → Int32))} {H : jm_H} {Q : Option Value → jm_H → Prop} {r0 : Nat} {x1 x2 : Int32} {w3 : Value} (h0 : jm_tg H r0 = 13) : jm_w S 4 173 155 [.ref r0, .int x1, .int x2, w3] [] H Q = jm_c S 171 [.ref r0, .int (1 : Int32)] H (fun v G => jm_w S 4 173 160 [.ref r0, .int x1, .int x2, w3] (v.toList ++ []) G Q) := (js1 at173_155 rfl rfl rfl).trans ((jsci at173_156 rfl rfl).trans (jscall (H := H) (as := [.ref r0, .int (1 : Int32)]) (q := []) at173_157 rfl rv173i_164 (jscutV rfl rfl rfl (Nat.le_of_ble_eq_true rfl) rfl h0) rfl (Nat.le_of_ble_eq_true rfl) rfl rfl))
theorem at173_160 : jm_at 173 160 = some (.iconst 0) := rfl
theorem at173_161 : jm_at 173 161 = some (.istore_n 1) := rfl
theorem at173_162 : jm_at 173 162 = some (.goto (-153)) := rfl
theorem u173_160 {S : Option (Nat × (Nat → Int32))} {H : jm_H} {Q : Option Value → jm_H → Prop} {r0 : Nat} {x1 x2 : Int32} {w3 : Value} : jm_w S 4 173 160 [.ref r0, .int x1, .int x2, w3] [] H Q = jm_w S 4 173 9 [.ref r0, .int (0 : Int32), .int x2, w3] [] H Q := (jsci at173_160 rfl rfl).trans ((js1 at173_161 rfl rfl rfl).trans (js2 at173_162 rfl rfl))
theorem at173_165 : jm_at 173 165 = some (.aload_n 0) := rfl
theorem at173_166 : jm_at 173 166 = some (.iconst 5) := rfl
theorem at173_167 : jm_at 173 167 = some (.invokevirtual 167) := rfl
theorem u173_165 {S : Option (Nat × (Nat → Int32))} {H : jm_H} {Q : Option Value → jm_H → Prop} {r0 : Nat} {x1 x2 : Int32} {w3 : Value} (h0 : jm_tg H r0 = 13) : jm_w S 4 173 165 [.ref r0, .int x1, .int x2, w3] [] H Q = jm_c S 169 [.ref r0, .int (5 : Int32)] H (fun v G => jm_w S 4 173 170 [.ref r0, .int x1, .int x2, w3] (v.toList ++ []) G Q) := (js1 at173_165 rfl rfl rfl).trans ((jsci at173_166 rfl rfl).trans (jscall (H := H) (as := [.ref r0, .int (5 : Int32)]) (q := []) at173_167 rfl rv173i_167 (jscutV rfl rfl rfl (Nat.le_of_ble_eq_true rfl) rfl h0) rfl (Nat.le_of_ble_eq_true rfl) rfl rfl))
theorem at173_170 : jm_at 173 170 = some (.ifCond .ne 30) := rfl
theorem u173_170 {S : Option (Nat × (Nat → Int32))} {H : jm_H} {Q : Option Value → jm_H → Prop} {r0 : Nat} {x1 x2 p0 : Int32} {w3 : Value} : jm_w S 4 173 170 [.ref r0, .int x1, .int x2, w3] [.int p0] H Q = if ¬ p0 = 0 then jm_w S 4 173 200 [.ref r0, .int x1, .int x2, w3] [] H Q else jm_w S 4 173 173 [.ref r0, .int x1, .int x2, w3] [] H Q := jsif (P := ¬ p0 = 0) at173_170 rfl rfl
theorem at173_173 : jm_at 173 173 = some (.aload_n 0) := rfl
theorem at173_174 : jm_at 173 174 = some (.bipush 6) := rfl
theorem at173_176 : jm_at 173 176 = some (.invokevirtual 167) := rfl
theorem u173_173 {S : Option (Nat × (Nat → Int32))} {H : jm_H} {Q : Option Value → jm_H → Prop} {r0 : Nat} {x1 x2 : Int32} {w3 : Value} (h0 : jm_tg H r0 = 13) : jm_w S 4 173 173 [.ref r0, .int x1, .int x2, w3] [] H Q = jm_c S 169 [.ref r0, .int (6 : Int32)] H (fun v G => jm_w S 4 173 179 [.ref r0, .int x1, .int x2, w3] (v.toList ++ []) G Q) := (js1 at173_173 rfl rfl rfl).trans ((jscb at173_174 rfl rfl).trans (jscall (H := H) (as := [.ref r0, .int (6 : Int32)]) (q := []) at173_176 rfl rv173i_167 (jscutV rfl rfl rfl (Nat.le_of_ble_eq_true rfl) rfl h0) rfl (Nat.le_of_ble_eq_true rfl) rfl rfl))
theorem at173_179 : jm_at 173 179 = some (.ifCond .ne 21) := rfl
theorem u173_179 {S : Option (Nat × (Nat → Int32))} {H : jm_H} {Q : Option Value → jm_H → Prop} {r0 : Nat} {x1 x2 p0 : Int32} {w3 : Value} : jm_w S 4 173 179 [.ref r0, .int x1, .int x2, w3] [.int p0] H Q = if ¬ p0 = 0 then jm_w S 4 173 200 [.ref r0, .int x1, .int x2, w3] [] H Q else jm_w S 4 173 182 [.ref r0, .int x1, .int x2, w3] [] H Q := jsif (P := ¬ p0 = 0) at173_179 rfl rfl
theorem at173_182 : jm_at 173 182 = some (.aload_n 0) := rfl
theorem at173_183 : jm_at 173 183 = some (.bipush 7) := rfl
theorem at173_185 : jm_at 173 185 = some (.invokevirtual 167) := rfl
theorem u173_182 {S : Option (Nat × (Nat → Int32))} {H : jm_H} {Q : Option Value → jm_H → Prop} {r0 : Nat} {x1 x2 : Int32} {w3 : Value} (h0 : jm_tg H r0 = 13) : jm_w S 4 173 182 [.ref r0, .int x1, .int x2, w3] [] H Q = jm_c S 169 [.ref r0, .int (7 : Int32)] H (fun v G => jm_w S 4 173 188 [.ref r0, .int x1, .int x2, w3] (v.toList ++ []) G Q) := (js1 at173_182 rfl rfl rfl).trans ((jscb at173_183 rfl rfl).trans (jscall (H := H) (as := [.ref r0, .int (7 : Int32)]) (q := []) at173_185 rfl rv173i_167 (jscutV rfl rfl rfl (Nat.le_of_ble_eq_true rfl) rfl h0) rfl (Nat.le_of_ble_eq_true rfl) rfl rfl))
theorem at173_188 : jm_at 173 188 = some (.ifCond .ne 12) := rfl
theorem u173_188 {S : Option (Nat × (Nat → Int32))} {H : jm_H} {Q : Option Value → jm_H → Prop} {r0 : Nat} {x1 x2 p0 : Int32} {w3 : Value} : jm_w S 4 173 188 [.ref r0, .int x1, .int x2, w3] [.int p0] H Q = if ¬ p0 = 0 then jm_w S 4 173 200 [.ref r0, .int x1, .int x2, w3] [] H Q else jm_w S 4 173 191 [.ref r0, .int x1, .int x2, w3] [] H Q := jsif (P := ¬ p0 = 0) at173_188 rfl rfl
theorem at173_191 : jm_at 173 191 = some (.aload_n 0) := rfl
theorem at173_192 : jm_at 173 192 = some (.bipush 8) := rfl
theorem at173_194 : jm_at 173 194 = some (.invokevirtual 167) := rfl
theorem u173_191 {S : Option (Nat × (Nat → Int32))} {H : jm_H} {Q : Option Value → jm_H → Prop} {r0 : Nat} {x1 x2 : Int32} {w3 : Value} (h0 : jm_tg H r0 = 13) : jm_w S 4 173 191 [.ref r0, .int x1, .int x2, w3] [] H Q = jm_c S 169 [.ref r0, .int (8 : Int32)] H (fun v G => jm_w S 4 173 197 [.ref r0, .int x1, .int x2, w3] (v.toList ++ []) G Q) := (js1 at173_191 rfl rfl rfl).trans ((jscb at173_192 rfl rfl).trans (jscall (H := H) (as := [.ref r0, .int (8 : Int32)]) (q := []) at173_194 rfl rv173i_167 (jscutV rfl rfl rfl (Nat.le_of_ble_eq_true rfl) rfl h0) rfl (Nat.le_of_ble_eq_true rfl) rfl rfl))
theorem at173_197 : jm_at 173 197 = some (.ifCond .eq 14) := rfl
theorem u173_197 {S : Option (Nat × (Nat → Int32))} {H : jm_H} {Q : Option Value → jm_H → Prop} {r0 : Nat} {x1 x2 p0 : Int32} {w3 : Value} : jm_w S 4 173 197 [.ref r0, .int x1, .int x2, w3] [.int p0] H Q = if p0 = 0 then jm_w S 4 173 211 [.ref r0, .int x1, .int x2, w3] [] H Q else jm_w S 4 173 200 [.ref r0, .int x1, .int x2, w3] [] H Q := jsif (P := p0 = 0) at173_197 rfl rfl
theorem at173_200 : jm_at 173 200 = some (.aload_n 0) := rfl
theorem at173_201 : jm_at 173 201 = some (.invokevirtual 170) := rfl
theorem u173_200 {S : Option (Nat × (Nat → Int32))} {H : jm_H} {Q : Option Value → jm_H → Prop} {r0 : Nat} {x1 x2 : Int32} {w3 : Value} (h0 : jm_tg H r0 = 13) : jm_w S 4 173 200 [.ref r0, .int x1, .int x2, w3] [] H Q = jm_c S 170 [.ref r0] H (fun v G => jm_w S 4 173 204 [.ref r0, .int x1, .int x2, w3] (v.toList ++ []) G Q) := (js1 at173_200 rfl rfl rfl).trans (jscall (H := H) (as := [.ref r0]) (q := []) at173_201 rfl rv173i_170 (jscutV rfl rfl rfl (Nat.le_of_ble_eq_true rfl) rfl h0) rfl (Nat.le_of_ble_eq_true rfl) rfl rfl)
theorem at173_204 : jm_at 173 204 = some (.iconst 1) := rfl
theorem at173_205 : jm_at 173 205 = some (.istore_n 1) := rfl
theorem at173_206 : jm_at 173 206 = some (.iconst 0) := rfl
theorem at173_207 : jm_at 173 207 = some (.istore_n 2) := rfl
theorem at173_208 : jm_at 173 208 = some (.goto (-199)) := rfl
theorem u173_204 {S : Option (Nat × (Nat → Int32))} {H : jm_H} {Q : Option Value → jm_H → Prop} {r0 : Nat} {x1 x2 : Int32} {w3 : Value} : jm_w S 4 173 204 [.ref r0, .int x1, .int x2, w3] [] H Q = jm_w S 4 173 9 [.ref r0, .int (1 : Int32), .int (0 : Int32), w3] [] H Q := (jsci at173_204 rfl rfl).trans ((js1 at173_205 rfl rfl rfl).trans ((jsci at173_206 rfl rfl).trans ((js1 at173_207 rfl rfl rfl).trans (js2 at173_208 rfl rfl))))
theorem at173_211 : jm_at 173 211 = some (.aload_n 0) := rfl
theorem at173_212 : jm_at 173 212 = some (.getfield 212) := rfl
theorem rv173g_212 : jm_rv 173 (.getfield 212) = (0, 12, 31, 0) := rfl
theorem at173_215 : jm_at 173 215 = some (.ifCond .ne 4) := rfl
theorem u173_211 {S : Option (Nat × (Nat → Int32))} {H : jm_H} {Q : Option Value → jm_H → Prop} {r0 : Nat} {x1 x2 : Int32} {w3 : Value} (h0 : jm_tg H r0 = 13) : jm_w S 4 173 211 [.ref r0, .int x1, .int x2, w3] [] H Q = if ¬ (jm_I H r0 31) = 0 then jm_w S 4 173 219 [.ref r0, .int x1, .int x2, w3] [] H Q else jm_w S 4 173 218 [.ref r0, .int x1, .int x2, w3] [] H Q := (js1 at173_211 rfl rfl rfl).trans ((jsgI (H := H) at173_212 rv173g_212 (Or.inl rfl) h0 rfl).trans (jsif (P := ¬ (jm_I H r0 31) = 0) at173_215 rfl rfl))
theorem at173_218 : jm_at 173 218 = some (.return_) := rfl
theorem u173_218 {S : Option (Nat × (Nat → Int32))} {H : jm_H} {Q : Option Value → jm_H → Prop} {r0 : Nat} {x1 x2 : Int32} {w3 : Value} : jm_w S 4 173 218 [.ref r0, .int x1, .int x2, w3] [] H Q = Q none H := jsret_v at173_218 rfl
theorem at173_219 : jm_at 173 219 = some (.aload_n 0) := rfl
theorem at173_220 : jm_at 173 220 = some (.getfield 67) := rfl
theorem rv173g_67 : jm_rv 173 (.getfield 67) = (0, 12, 32, 0) := rfl
theorem at173_223 : jm_at 173 223 = some (.aload_n 0) := rfl
theorem at173_224 : jm_at 173 224 = some (.getfield 212) := rfl
theorem at173_227 : jm_at 173 227 = some (.iconst 1) := rfl
theorem at173_228 : jm_at 173 228 = some (.isub) := rfl
theorem at173_229 : jm_at 173 229 = some (.iaload) := rfl
theorem at173_230 : jm_at 173 230 = some (.bipush 23) := rfl
theorem at173_232 : jm_at 173 232 = some (.if_icmp .ne 57) := rfl
theorem u173_219 {S : Option (Nat × (Nat → Int32))} {H : jm_H} {Q : Option Value → jm_H → Prop} {r0 : Nat} {x1 x2 : Int32} {w3 : Value} (h0 : jm_tg H r0 = 13) (h1 : ¬ jm_R H r0 32 = 0) (h2 : ¬ (((jm_I H r0 31) - (1 : Int32)) < 0 ∨ jm_ln H (jm_R H r0 32) ≤ Int32.toNatClampNeg ((jm_I H r0 31) - (1 : Int32)))) (h3 : ¬ (jm_R H r0 32) = 1) (h4 : jm_tg H (jm_R H r0 32) = 100) : jm_w S 4 173 219 [.ref r0, .int x1, .int x2, w3] [] H Q = if ¬ (jm_I H (jm_R H r0 32) (Int32.toNatClampNeg ((jm_I H r0 31) - (1 : Int32)))) = (23 : Int32) then jm_w S 4 173 289 [.ref r0, .int x1, .int x2, w3] [] H Q else jm_w S 4 173 235 [.ref r0, .int x1, .int x2, w3] [] H Q := (js1 at173_219 rfl rfl rfl).trans ((jsgR (H := H) at173_220 rv173g_67 rfl h0 h1 rfl).trans ((js1 at173_223 rfl rfl rfl).trans ((jsgI (H := H) at173_224 rv173g_212 (Or.inl rfl) h0 rfl).trans ((jsci at173_227 rfl rfl).trans ((js0 at173_228 rfl rfl rfl).trans ((jsial (H := H) at173_229 h3 h4 h2 rfl).trans ((jscb at173_230 rfl rfl).trans (jsif (P := ¬ (jm_I H (jm_R H r0 32) (Int32.toNatClampNeg ((jm_I H r0 31) - (1 : Int32)))) = (23 : Int32)) at173_232 rfl rfl))))))))
theorem at173_235 : jm_at 173 235 = some (.aload_n 0) := rfl
theorem at173_236 : jm_at 173 236 = some (.bipush 11) := rfl
theorem at173_238 : jm_at 173 238 = some (.invokevirtual 167) := rfl
theorem u173_235 {S : Option (Nat × (Nat → Int32))} {H : jm_H} {Q : Option Value → jm_H → Prop} {r0 : Nat} {x1 x2 : Int32} {w3 : Value} (h0 : jm_tg H r0 = 13) : jm_w S 4 173 235 [.ref r0, .int x1, .int x2, w3] [] H Q = jm_c S 169 [.ref r0, .int (11 : Int32)] H (fun v G => jm_w S 4 173 241 [.ref r0, .int x1, .int x2, w3] (v.toList ++ []) G Q) := (js1 at173_235 rfl rfl rfl).trans ((jscb at173_236 rfl rfl).trans (jscall (H := H) (as := [.ref r0, .int (11 : Int32)]) (q := []) at173_238 rfl rv173i_167 (jscutV rfl rfl rfl (Nat.le_of_ble_eq_true rfl) rfl h0) rfl (Nat.le_of_ble_eq_true rfl) rfl rfl))
theorem at173_241 : jm_at 173 241 = some (.ifCond .ne 20) := rfl
theorem u173_241 {S : Option (Nat × (Nat → Int32))} {H : jm_H} {Q : Option Value → jm_H → Prop} {r0 : Nat} {x1 x2 p0 : Int32} {w3 : Value} : jm_w S 4 173 241 [.ref r0, .int x1, .int x2, w3] [.int p0] H Q = if ¬ p0 = 0 then jm_w S 4 173 261 [.ref r0, .int x1, .int x2, w3] [] H Q else jm_w S 4 173 244 [.ref r0, .int x1, .int x2, w3] [] H Q := jsif (P := ¬ p0 = 0) at173_241 rfl rfl
theorem at173_244 : jm_at 173 244 = some (.aload_n 0) := rfl
theorem at173_245 : jm_at 173 245 = some (.getfield 70) := rfl
theorem rv173g_70 : jm_rv 173 (.getfield 70) = (0, 12, 33, 0) := rfl
theorem at173_248 : jm_at 173 248 = some (.aload_n 0) := rfl
theorem at173_249 : jm_at 173 249 = some (.getfield 212) := rfl
theorem at173_252 : jm_at 173 252 = some (.iconst 1) := rfl
theorem at173_253 : jm_at 173 253 = some (.isub) := rfl
theorem at173_254 : jm_at 173 254 = some (.iaload) := rfl
theorem at173_255 : jm_at 173 255 = some (.iconst 2) := rfl
theorem at173_256 : jm_at 173 256 = some (.irem) := rfl
theorem at173_257 : jm_at 173 257 = some (.iconst 1) := rfl
theorem at173_258 : jm_at 173 258 = some (.if_icmp .ne 31) := rfl
theorem u173_244 {S : Option (Nat × (Nat → Int32))} {H : jm_H} {Q : Option Value → jm_H → Prop} {r0 : Nat} {x1 x2 : Int32} {w3 : Value} (h0 : jm_tg H r0 = 13) (h1 : ¬ jm_R H r0 33 = 0) (h2 : ¬ (((jm_I H r0 31) - (1 : Int32)) < 0 ∨ jm_ln H (jm_R H r0 33) ≤ Int32.toNatClampNeg ((jm_I H r0 31) - (1 : Int32)))) (h3 : ¬ (jm_R H r0 33) = 1) (h4 : jm_tg H (jm_R H r0 33) = 100) : jm_w S 4 173 244 [.ref r0, .int x1, .int x2, w3] [] H Q = if ¬ ((jm_I H (jm_R H r0 33) (Int32.toNatClampNeg ((jm_I H r0 31) - (1 : Int32)))) - (jm_I H (jm_R H r0 33) (Int32.toNatClampNeg ((jm_I H r0 31) - (1 : Int32)))) / (2 : Int32) * (2 : Int32)) = (1 : Int32) then jm_w S 4 173 289 [.ref r0, .int x1, .int x2, w3] [] H Q else jm_w S 4 173 261 [.ref r0, .int x1, .int x2, w3] [] H Q := (js1 at173_244 rfl rfl rfl).trans ((jsgR (H := H) at173_245 rv173g_70 rfl h0 h1 rfl).trans ((js1 at173_248 rfl rfl rfl).trans ((jsgI (H := H) at173_249 rv173g_212 (Or.inl rfl) h0 rfl).trans ((jsci at173_252 rfl rfl).trans ((js0 at173_253 rfl rfl rfl).trans ((jsial (H := H) at173_254 h3 h4 h2 rfl).trans ((jsci at173_255 rfl rfl).trans ((jsirem at173_256 (by decide) rfl).trans ((jsci at173_257 rfl rfl).trans (jsif (P := ¬ ((jm_I H (jm_R H r0 33) (Int32.toNatClampNeg ((jm_I H r0 31) - (1 : Int32)))) - (jm_I H (jm_R H r0 33) (Int32.toNatClampNeg ((jm_I H r0 31) - (1 : Int32)))) / (2 : Int32) * (2 : Int32)) = (1 : Int32)) at173_258 rfl rfl))))))))))
theorem at173_261 : jm_at 173 261 = some (.aload_n 0) := rfl
theorem at173_262 : jm_at 173 262 = some (.bipush 11) := rfl
theorem at173_264 : jm_at 173 264 = some (.invokevirtual 179) := rfl
theorem rv173i_179 : jm_rv 173 (.invokevirtual 179) = (2, 168, 0, 0) := rfl
theorem u173_261 {S : Option (Nat × (Nat → Int32))} {H : jm_H} {Q : Option Value → jm_H → Prop} {r0 : Nat} {x1 x2 : Int32} {w3 : Value} (h0 : jm_tg H r0 = 13) : jm_w S 4 173 261 [.ref r0, .int x1, .int x2, w3] [] H Q = jm_c S 168 [.ref r0, .int (11 : Int32)] H (fun v G => jm_w S 4 173 267 [.ref r0, .int x1, .int x2, w3] (v.toList ++ []) G Q) := (js1 at173_261 rfl rfl rfl).trans ((jscb at173_262 rfl rfl).trans (jscall (H := H) (as := [.ref r0, .int (11 : Int32)]) (q := []) at173_264 rfl rv173i_179 (jscutV rfl rfl rfl (Nat.le_of_ble_eq_true rfl) rfl h0) rfl (Nat.le_of_ble_eq_true rfl) rfl rfl))
theorem at173_267 : jm_at 173 267 = some (.aload_n 0) := rfl
theorem at173_268 : jm_at 173 268 = some (.getfield 70) := rfl
theorem at173_271 : jm_at 173 271 = some (.aload_n 0) := rfl
theorem at173_272 : jm_at 173 272 = some (.getfield 212) := rfl
theorem at173_275 : jm_at 173 275 = some (.iconst 1) := rfl
theorem at173_276 : jm_at 173 276 = some (.isub) := rfl
theorem at173_277 : jm_at 173 277 = some (.dup2) := rfl
theorem at173_278 : jm_at 173 278 = some (.iaload) := rfl
theorem at173_279 : jm_at 173 279 = some (.iconst 1) := rfl
theorem at173_280 : jm_at 173 280 = some (.iadd) := rfl
theorem at173_281 : jm_at 173 281 = some (.iastore) := rfl
theorem at173_282 : jm_at 173 282 = some (.iconst 1) := rfl
theorem at173_283 : jm_at 173 283 = some (.istore_n 1) := rfl
theorem at173_284 : jm_at 173 284 = some (.iconst 1) := rfl
theorem at173_285 : jm_at 173 285 = some (.istore_n 2) := rfl
theorem at173_286 : jm_at 173 286 = some (.goto (-277)) := rfl
theorem u173_267 {S : Option (Nat × (Nat → Int32))} {H : jm_H} {Q : Option Value → jm_H → Prop} {r0 : Nat} {x1 x2 : Int32} {w3 : Value} (h0 : jm_tg H r0 = 13) (h1 : ¬ jm_R H r0 33 = 0) (h2 : ¬ (((jm_I H r0 31) - (1 : Int32)) < 0 ∨ jm_ln H (jm_R H r0 33) ≤ Int32.toNatClampNeg ((jm_I H r0 31) - (1 : Int32)))) (h3 : ¬ (jm_R H r0 33) = 1) (h4 : jm_tg H (jm_R H r0 33) = 100) : jm_w S 4 173 267 [.ref r0, .int x1, .int x2, w3] [] H Q = jm_w S 4 173 9 [.ref r0, .int (1 : Int32), .int (1 : Int32), w3] [] (jm_pI H (jm_R H r0 33) (Int32.toNatClampNeg ((jm_I H r0 31) - (1 : Int32))) ((jm_I H (jm_R H r0 33) (Int32.toNatClampNeg ((jm_I H r0 31) - (1 : Int32)))) + (1 : Int32))) Q := (js1 at173_267 rfl rfl rfl).trans ((jsgR (H := H) at173_268 rv173g_70 rfl h0 h1 rfl).trans ((js1 at173_271 rfl rfl rfl).trans ((jsgI (H := H) at173_272 rv173g_212 (Or.inl rfl) h0 rfl).trans ((jsci at173_275 rfl rfl).trans ((js0 at173_276 rfl rfl rfl).trans ((js0 at173_277 rfl rfl rfl).trans ((jsial (H := H) at173_278 h3 h4 h2 rfl).trans ((jsci at173_279 rfl rfl).trans ((js0 at173_280 rfl rfl rfl).trans ((jsias (H := H) at173_281 h4 h2 rfl).trans ((jsci at173_282 rfl rfl).trans ((js1 at173_283 rfl rfl rfl).trans ((jsci at173_284 rfl rfl).trans ((js1 at173_285 rfl rfl rfl).trans (js2 at173_286 rfl rfl)))))))))))))))
theorem at173_289 : jm_at 173 289 = some (.aload_n 0) := rfl
theorem at173_290 : jm_at 173 290 = some (.bipush 10) := rfl
theorem at173_292 : jm_at 173 292 = some (.invokevirtual 179) := rfl
theorem u173_289 {S : Option (Nat × (Nat → Int32))} {H : jm_H} {Q : Option Value → jm_H → Prop} {r0 : Nat} {x1 x2 : Int32} {w3 : Value} (h0 : jm_tg H r0 = 13) : jm_w S 4 173 289 [.ref r0, .int x1, .int x2, w3] [] H Q = jm_c S 168 [.ref r0, .int (10 : Int32)] H (fun v G => jm_w S 4 173 295 [.ref r0, .int x1, .int x2, w3] (v.toList ++ []) G Q) := (js1 at173_289 rfl rfl rfl).trans ((jscb at173_290 rfl rfl).trans (jscall (H := H) (as := [.ref r0, .int (10 : Int32)]) (q := []) at173_292 rfl rv173i_179 (jscutV rfl rfl rfl (Nat.le_of_ble_eq_true rfl) rfl h0) rfl (Nat.le_of_ble_eq_true rfl) rfl rfl))
theorem at173_295 : jm_at 173 295 = some (.aload_n 0) := rfl
theorem at173_296 : jm_at 173 296 = some (.dup) := rfl
theorem at173_297 : jm_at 173 297 = some (.getfield 212) := rfl
theorem at173_300 : jm_at 173 300 = some (.iconst 1) := rfl
theorem at173_301 : jm_at 173 301 = some (.isub) := rfl
theorem at173_302 : jm_at 173 302 = some (.putfield 212) := rfl
theorem at173_305 : jm_at 173 305 = some (.goto (-296)) := rfl
theorem u173_295 {S : Option (Nat × (Nat → Int32))} {H : jm_H} {Q : Option Value → jm_H → Prop} {r0 : Nat} {x1 x2 : Int32} {w3 : Value} (h0 : jm_tg H r0 = 13) : jm_w S 4 173 295 [.ref r0, .int x1, .int x2, w3] [] H Q = jm_w S 4 173 9 [.ref r0, .int x1, .int x2, w3] [] (jm_pI H r0 31 ((jm_I H r0 31) - (1 : Int32))) Q := (js1 at173_295 rfl rfl rfl).trans ((js0 at173_296 rfl rfl rfl).trans ((jsgI (H := H) at173_297 rv173g_212 (Or.inl rfl) h0 rfl).trans ((jsci at173_300 rfl rfl).trans ((js0 at173_301 rfl rfl rfl).trans ((jspI (H := H) at173_302 rv173p_212 rfl h0 rfl).trans (js2 at173_305 rfl rfl))))))
theorem at173_308 : jm_at 173 308 = some (.return_) := rfl
theorem u173_308 {S : Option (Nat × (Nat → Int32))} {H : jm_H} {Q : Option Value → jm_H → Prop} {r0 : Nat} {x1 x2 : Int32} {w3 : Value} : jm_w S 4 173 308 [.ref r0, .int x1, .int x2, w3] [] H Q = Q none H := jsret_v at173_308 rfl
theorem en173 {S : Option (Nat × (Nat → Int32))} {H : jm_H} {Q : Option Value → jm_H → Prop} {r0 : Nat} : jm_c S 173 [.ref r0] H Q = jm_w S 4 173 0 [.ref r0, .null, .null, .null] [] H Q := rfl
theorem at174_0 : jm_at 174 0 = some (.aload_n 0) := rfl
theorem at174_1 : jm_at 174 1 = some (.getfield 212) := rfl
theorem rv174g_212 : jm_rv 174 (.getfield 212) = (0, 12, 31, 0) := rfl
theorem at174_4 : jm_at 174 4 = some (.bipush 8) := rfl
theorem at174_6 : jm_at 174 6 = some (.if_icmp .ne 9) := rfl
theorem u174_0 {S : Option (Nat × (Nat → Int32))} {H : jm_H} {Q : Option Value → jm_H → Prop} {r0 : Nat} {x1 : Int32} (h0 : jm_tg H r0 = 13) : jm_w S 3 174 0 [.ref r0, .int x1] [] H Q = if ¬ (jm_I H r0 31) = (8 : Int32) then jm_w S 3 174 15 [.ref r0, .int x1] [] H Q else jm_w S 3 174 9 [.ref r0, .int x1] [] H Q := (js1 at174_0 rfl rfl rfl).trans ((jsgI (H := H) at174_1 rv174g_212 (Or.inl rfl) h0 rfl).trans ((jscb at174_4 rfl rfl).trans (jsif (P := ¬ (jm_I H r0 31) = (8 : Int32)) at174_6 rfl rfl)))
theorem at174_9 : jm_at 174 9 = some (.aload_n 0) := rfl
theorem at174_10 : jm_at 174 10 = some (.iconst 2) := rfl
theorem at174_11 : jm_at 174 11 = some (.invokevirtual 164) := rfl
theorem rv174i_164 : jm_rv 174 (.invokevirtual 164) = (2, 171, 0, 0) := rfl
theorem u174_9 {S : Option (Nat × (Nat → Int32))} {H : jm_H} {Q : Option Value → jm_H → Prop} {r0 : Nat} {x1 : Int32} (h0 : jm_tg H r0 = 13) : jm_w S 3 174 9 [.ref r0, .int x1] [] H Q = jm_c S 171 [.ref r0, .int (2 : Int32)] H (fun v G => jm_w S 3 174 14 [.ref r0, .int x1] (v.toList ++ []) G Q) := (js1 at174_9 rfl rfl rfl).trans ((jsci at174_10 rfl rfl).trans (jscall (H := H) (as := [.ref r0, .int (2 : Int32)]) (q := []) at174_11 rfl rv174i_164 (jscutV rfl rfl rfl (Nat.le_of_ble_eq_true rfl) rfl h0) rfl (Nat.le_of_ble_eq_true rfl) rfl rfl))
theorem at174_14 : jm_at 174 14 = some (.return_) := rfl
theorem u174_14 {S : Option (Nat × (Nat → Int32))} {H : jm_H} {Q : Option Value → jm_H → Prop} {r0 : Nat} {x1 : Int32} : jm_w S 3 174 14 [.ref r0, .int x1] [] H Q = Q none H := jsret_v at174_14 rfl
theorem at174_15 : jm_at 174 15 = some (.aload_n 0) := rfl
theorem at174_16 : jm_at 174 16 = some (.getfield 67) := rfl
theorem rv174g_67 : jm_rv 174 (.getfield 67) = (0, 12, 32, 0) := rfl
theorem at174_19 : jm_at 174 19 = some (.aload_n 0) := rfl
theorem at174_20 : jm_at 174 20 = some (.getfield 212) := rfl
theorem at174_23 : jm_at 174 23 = some (.iload_n 1) := rfl
theorem at174_24 : jm_at 174 24 = some (.iastore) := rfl
theorem at174_25 : jm_at 174 25 = some (.aload_n 0) := rfl
theorem at174_26 : jm_at 174 26 = some (.getfield 70) := rfl
theorem rv174g_70 : jm_rv 174 (.getfield 70) = (0, 12, 33, 0) := rfl
theorem at174_29 : jm_at 174 29 = some (.aload_n 0) := rfl
theorem at174_30 : jm_at 174 30 = some (.getfield 212) := rfl
theorem at174_33 : jm_at 174 33 = some (.iconst 1) := rfl
theorem at174_34 : jm_at 174 34 = some (.iastore) := rfl
theorem at174_35 : jm_at 174 35 = some (.aload_n 0) := rfl
theorem at174_36 : jm_at 174 36 = some (.dup) := rfl
theorem at174_37 : jm_at 174 37 = some (.getfield 212) := rfl
theorem at174_40 : jm_at 174 40 = some (.iconst 1) := rfl
theorem at174_41 : jm_at 174 41 = some (.iadd) := rfl
theorem at174_42 : jm_at 174 42 = some (.putfield 212) := rfl
theorem rv174p_212 : jm_rv 174 (.putfield 212) = (0, 12, 31, 0) := rfl
theorem at174_45 : jm_at 174 45 = some (.aload_n 0) := rfl
theorem at174_46 : jm_at 174 46 = some (.invokevirtual 170) := rfl
theorem rv174i_170 : jm_rv 174 (.invokevirtual 170) = (2, 170, 0, 0) := rfl
theorem u174_15 {S : Option (Nat × (Nat → Int32))} {H : jm_H} {Q : Option Value → jm_H → Prop} {r0 : Nat} {x1 : Int32} (h0 : jm_tg H r0 = 13) (h1 : ¬ jm_R H r0 32 = 0) (h2 : ¬ ((jm_I H r0 31) < 0 ∨ jm_ln H (jm_R H r0 32) ≤ Int32.toNatClampNeg (jm_I H r0 31))) (h3 : jm_tg H (jm_R H r0 32) = 100) (h4 : ¬ jm_R H r0 33 = 0) (h5 : ¬ ((jm_I (jm_pI H (jm_R H r0 32) (Int32.toNatClampNeg (jm_I H r0 31)) x1) r0 31) < 0 ∨ jm_ln H (jm_R H r0 33) ≤ Int32.toNatClampNeg (jm_I (jm_pI H (jm_R H r0 32) (Int32.toNatClampNeg (jm_I H r0 31)) x1) r0 31))) (h6 : jm_tg H (jm_R H r0 33) = 100) : jm_w S 3 174 15 [.ref r0, .int x1] [] H Q = jm_c S 170 [.ref r0] (jm_pI (jm_pI (jm_pI H (jm_R H r0 32) (Int32.toNatClampNeg (jm_I H r0 31)) x1) (jm_R H r0 33) (Int32.toNatClampNeg (jm_I (jm_pI H (jm_R H r0 32) (Int32.toNatClampNeg (jm_I H r0 31)) x1) r0 31)) (1 : Int32)) r0 31 ((jm_I (jm_pI (jm_pI H (jm_R H r0 32) (Int32.toNatClampNeg (jm_I H r0 31)) x1) (jm_R H r0 33) (Int32.toNatClampNeg (jm_I (jm_pI H (jm_R H r0 32) (Int32.toNatClampNeg (jm_I H r0 31)) x1) r0 31)) (1 : Int32)) r0 31) + (1 : Int32))) (fun v G => jm_w S 3 174 49 [.ref r0, .int x1] (v.toList ++ []) G Q) := (js1 at174_15 rfl rfl rfl).trans ((jsgR (H := H) at174_16 rv174g_67 rfl h0 h1 rfl).trans ((js1 at174_19 rfl rfl rfl).trans ((jsgI (H := H) at174_20 rv174g_212 (Or.inl rfl) h0 rfl).trans ((js1 at174_23 rfl rfl rfl).trans ((jsias (H := H) at174_24 h3 h2 rfl).trans ((js1 at174_25 rfl rfl rfl).trans ((jsgR (H := (jm_pI H (jm_R H r0 32) (Int32.toNatClampNeg (jm_I H r0 31)) x1)) at174_26 rv174g_70 rfl h0 h4 rfl).trans ((js1 at174_29 rfl rfl rfl).trans ((jsgI (H := (jm_pI H (jm_R H r0 32) (Int32.toNatClampNeg (jm_I H r0 31)) x1)) at174_30 rv174g_212 (Or.inl rfl) h0 rfl).trans ((jsci at174_33 rfl rfl).trans ((jsias (H := (jm_pI H (jm_R H r0 32) (Int32.toNatClampNeg (jm_I H r0 31)) x1)) at174_34 h6 h5 rfl).trans ((js1 at174_35 rfl rfl rfl).trans ((js0 at174_36 rfl rfl rfl).trans ((jsgI (H := (jm_pI (jm_pI H (jm_R H r0 32) (Int32.toNatClampNeg (jm_I H r0 31)) x1) (jm_R H r0 33) (Int32.toNatClampNeg (jm_I (jm_pI H (jm_R H r0 32) (Int32.toNatClampNeg (jm_I H r0 31)) x1) r0 31)) (1 : Int32))) at174_37 rv174g_212 (Or.inl rfl) h0 rfl).trans ((jsci at174_40 rfl rfl).trans ((js0 at174_41 rfl rfl rfl).trans ((jspI (H := (jm_pI (jm_pI H (jm_R H r0 32) (Int32.toNatClampNeg (jm_I H r0 31)) x1) (jm_R H r0 33) (Int32.toNatClampNeg (jm_I (jm_pI H (jm_R H r0 32) (Int32.toNatClampNeg (jm_I H r0 31)) x1) r0 31)) (1 : Int32))) at174_42 rv174p_212 rfl h0 rfl).trans ((js1 at174_45 rfl rfl rfl).trans (jscall (H := (jm_pI (jm_pI (jm_pI H (jm_R H r0 32) (Int32.toNatClampNeg (jm_I H r0 31)) x1) (jm_R H r0 33) (Int32.toNatClampNeg (jm_I (jm_pI H (jm_R H r0 32) (Int32.toNatClampNeg (jm_I H r0 31)) x1) r0 31)) (1 : Int32)) r0 31 ((jm_I (jm_pI (jm_pI H (jm_R H r0 32) (Int32.toNatClampNeg (jm_I H r0 31)) x1) (jm_R H r0 33) (Int32.toNatClampNeg (jm_I (jm_pI H (jm_R H r0 32) (Int32.toNatClampNeg (jm_I H r0 31)) x1) r0 31)) (1 : Int32)) r0 31) + (1 : Int32)))) (as := [.ref r0]) (q := []) at174_46 rfl rv174i_170 (jscutV rfl rfl rfl (Nat.le_of_ble_eq_true rfl) rfl h0) rfl (Nat.le_of_ble_eq_true rfl) rfl rfl)))))))))))))))))))
theorem at174_49 : jm_at 174 49 = some (.return_) := rfl
theorem u174_49 {S : Option (Nat × (Nat → Int32))} {H : jm_H} {Q : Option Value → jm_H → Prop} {r0 : Nat} {x1 : Int32} : jm_w S 3 174 49 [.ref r0, .int x1] [] H Q = Q none H := jsret_v at174_49 rfl
theorem en174 {S : Option (Nat × (Nat → Int32))} {H : jm_H} {Q : Option Value → jm_H → Prop} {r0 : Nat} {x1 : Int32} : jm_c S 174 [.ref r0, .int x1] H Q = jm_w S 3 174 0 [.ref r0, .int x1] [] H Q := rfl
theorem at175_0 : jm_at 175 0 = some (.aload_n 0) := rfl
theorem at175_1 : jm_at 175 1 = some (.iconst 0) := rfl
theorem at175_2 : jm_at 175 2 = some (.putfield 191) := rfl
theorem rv175p_191 : jm_rv 175 (.putfield 191) = (0, 12, 29, 0) := rfl
theorem at175_5 : jm_at 175 5 = some (.aload_n 0) := rfl
theorem at175_6 : jm_at 175 6 = some (.iconst 0) := rfl
theorem at175_7 : jm_at 175 7 = some (.putfield 197) := rfl
theorem rv175p_197 : jm_rv 175 (.putfield 197) = (0, 12, 30, 0) := rfl
theorem at175_10 : jm_at 175 10 = some (.aload_n 0) := rfl
theorem at175_11 : jm_at 175 11 = some (.getfield 27) := rfl
theorem rv175g_27 : jm_rv 175 (.getfield 27) = (0, 12, 7, 0) := rfl
theorem at175_14 : jm_at 175 14 = some (.iconst 1) := rfl
theorem at175_15 : jm_at 175 15 = some (.iaload) := rfl
theorem at175_16 : jm_at 175 16 = some (.iconst 3) := rfl
theorem at175_17 : jm_at 175 17 = some (.bipush 12) := rfl
theorem at175_19 : jm_at 175 19 = some (.invokestatic 218) := rfl
theorem rv175i_218 : jm_rv 175 (.invokestatic 218) = (1, 176, 0, 0) := rfl
theorem u175_0 {S : Option (Nat × (Nat → Int32))} {H : jm_H} {Q : Option Value → jm_H → Prop} {r0 : Nat} (h0 : jm_tg H r0 = 13) (h1 : ¬ jm_R H r0 7 = 0) (h2 : ¬ ((1 : Int32) < 0 ∨ jm_ln H (jm_R H r0 7) ≤ Int32.toNatClampNeg (1 : Int32))) (h3 : ¬ (jm_R H r0 7) = 1) (h4 : jm_tg H (jm_R H r0 7) = 100) : jm_w S 5 175 0 [.ref r0, .null] [] H Q = jm_c S 176 [.int (jm_I (jm_pI (jm_pI H r0 29 (0 : Int32)) r0 30 (0 : Int32)) (jm_R H r0 7) (Int32.toNatClampNeg (1 : Int32))), .int (3 : Int32), .int (12 : Int32)] (jm_pI (jm_pI H r0 29 (0 : Int32)) r0 30 (0 : Int32)) (fun v G => jm_w S 5 175 22 [.ref r0, .null] (v.toList ++ []) G Q) := (js1 at175_0 rfl rfl rfl).trans ((jsci at175_1 rfl rfl).trans ((jspI (H := H) at175_2 rv175p_191 rfl h0 rfl).trans ((js1 at175_5 rfl rfl rfl).trans ((jsci at175_6 rfl rfl).trans ((jspI (H := (jm_pI H r0 29 (0 : Int32))) at175_7 rv175p_197 rfl h0 rfl).trans ((js1 at175_10 rfl rfl rfl).trans ((jsgR (H := (jm_pI (jm_pI H r0 29 (0 : Int32)) r0 30 (0 : Int32))) at175_11 rv175g_27 rfl h0 h1 rfl).trans ((jsci at175_14 rfl rfl).trans ((jsial (H := (jm_pI (jm_pI H r0 29 (0 : Int32)) r0 30 (0 : Int32))) at175_15 h3 h4 h2 rfl).trans ((jsci at175_16 rfl rfl).trans ((jscb at175_17 rfl rfl).trans (jscall (H := (jm_pI (jm_pI H r0 29 (0 : Int32)) r0 30 (0 : Int32))) (as := [.int (jm_I (jm_pI (jm_pI H r0 29 (0 : Int32)) r0 30 (0 : Int32)) (jm_R H r0 7) (Int32.toNatClampNeg (1 : Int32))), .int (3 : Int32), .int (12 : Int32)]) (q := []) at175_19 rfl rv175i_218 (jscut rfl rfl rfl (Nat.le_of_ble_eq_true rfl)) rfl (Nat.le_of_ble_eq_true rfl) rfl rfl))))))))))))
theorem at175_22 : jm_at 175 22 = some (.ifCond .ne 9) := rfl
theorem u175_22 {S : Option (Nat × (Nat → Int32))} {H : jm_H} {Q : Option Value → jm_H → Prop} {r0 : Nat} {p0 : Int32} : jm_w S 5 175 22 [.ref r0, .null] [.int p0] H Q = if ¬ p0 = 0 then jm_w S 5 175 31 [.ref r0, .null] [] H Q else jm_w S 5 175 25 [.ref r0, .null] [] H Q := jsif (P := ¬ p0 = 0) at175_22 rfl rfl
theorem at175_25 : jm_at 175 25 = some (.aload_n 0) := rfl
theorem at175_26 : jm_at 175 26 = some (.iconst 5) := rfl
theorem at175_27 : jm_at 175 27 = some (.iconst 1) := rfl
theorem at175_28 : jm_at 175 28 = some (.invokevirtual 222) := rfl
theorem rv175i_222 : jm_rv 175 (.invokevirtual 222) = (2, 177, 0, 0) := rfl
theorem u175_25 {S : Option (Nat × (Nat → Int32))} {H : jm_H} {Q : Option Value → jm_H → Prop} {r0 : Nat} (h0 : jm_tg H r0 = 13) : jm_w S 5 175 25 [.ref r0, .null] [] H Q = jm_c S 177 [.ref r0, .int (5 : Int32), .int (1 : Int32)] H (fun v G => jm_w S 5 175 31 [.ref r0, .null] (v.toList ++ []) G Q) := (js1 at175_25 rfl rfl rfl).trans ((jsci at175_26 rfl rfl).trans ((jsci at175_27 rfl rfl).trans (jscall (H := H) (as := [.ref r0, .int (5 : Int32), .int (1 : Int32)]) (q := []) at175_28 rfl rv175i_222 (jscutV rfl rfl rfl (Nat.le_of_ble_eq_true rfl) rfl h0) rfl (Nat.le_of_ble_eq_true rfl) rfl rfl)))
theorem at175_31 : jm_at 175 31 = some (.aload_n 0) := rfl
theorem at175_32 : jm_at 175 32 = some (.getfield 27) := rfl
theorem at175_35 : jm_at 175 35 = some (.iconst 2) := rfl
theorem at175_36 : jm_at 175 36 = some (.iaload) := rfl
theorem at175_37 : jm_at 175 37 = some (.iconst 0) := rfl
theorem at175_38 : jm_at 175 38 = some (.iconst 2) := rfl
theorem at175_39 : jm_at 175 39 = some (.invokestatic 218) := rfl
theorem u175_31 {S : Option (Nat × (Nat → Int32))} {H : jm_H} {Q : Option Value → jm_H → Prop} {r0 : Nat} (h0 : jm_tg H r0 = 13) (h1 : ¬ jm_R H r0 7 = 0) (h2 : ¬ ((2 : Int32) < 0 ∨ jm_ln H (jm_R H r0 7) ≤ Int32.toNatClampNeg (2 : Int32))) (h3 : ¬ (jm_R H r0 7) = 1) (h4 : jm_tg H (jm_R H r0 7) = 100) : jm_w S 5 175 31 [.ref r0, .null] [] H Q = jm_c S 176 [.int (jm_I H (jm_R H r0 7) (Int32.toNatClampNeg (2 : Int32))), .int (0 : Int32), .int (2 : Int32)] H (fun v G => jm_w S 5 175 42 [.ref r0, .null] (v.toList ++ []) G Q) := (js1 at175_31 rfl rfl rfl).trans ((jsgR (H := H) at175_32 rv175g_27 rfl h0 h1 rfl).trans ((jsci at175_35 rfl rfl).trans ((jsial (H := H) at175_36 h3 h4 h2 rfl).trans ((jsci at175_37 rfl rfl).trans ((jsci at175_38 rfl rfl).trans (jscall (H := H) (as := [.int (jm_I H (jm_R H r0 7) (Int32.toNatClampNeg (2 : Int32))), .int (0 : Int32), .int (2 : Int32)]) (q := []) at175_39 rfl rv175i_218 (jscut rfl rfl rfl (Nat.le_of_ble_eq_true rfl)) rfl (Nat.le_of_ble_eq_true rfl) rfl rfl))))))
theorem at175_42 : jm_at 175 42 = some (.ifCond .ne 9) := rfl
theorem u175_42 {S : Option (Nat × (Nat → Int32))} {H : jm_H} {Q : Option Value → jm_H → Prop} {r0 : Nat} {p0 : Int32} : jm_w S 5 175 42 [.ref r0, .null] [.int p0] H Q = if ¬ p0 = 0 then jm_w S 5 175 51 [.ref r0, .null] [] H Q else jm_w S 5 175 45 [.ref r0, .null] [] H Q := jsif (P := ¬ p0 = 0) at175_42 rfl rfl
theorem at175_45 : jm_at 175 45 = some (.aload_n 0) := rfl
theorem at175_46 : jm_at 175 46 = some (.iconst 5) := rfl
theorem at175_47 : jm_at 175 47 = some (.iconst 2) := rfl
theorem at175_48 : jm_at 175 48 = some (.invokevirtual 222) := rfl
theorem u175_45 {S : Option (Nat × (Nat → Int32))} {H : jm_H} {Q : Option Value → jm_H → Prop} {r0 : Nat} (h0 : jm_tg H r0 = 13) : jm_w S 5 175 45 [.ref r0, .null] [] H Q = jm_c S 177 [.ref r0, .int (5 : Int32), .int (2 : Int32)] H (fun v G => jm_w S 5 175 51 [.ref r0, .null] (v.toList ++ []) G Q) := (js1 at175_45 rfl rfl rfl).trans ((jsci at175_46 rfl rfl).trans ((jsci at175_47 rfl rfl).trans (jscall (H := H) (as := [.ref r0, .int (5 : Int32), .int (2 : Int32)]) (q := []) at175_48 rfl rv175i_222 (jscutV rfl rfl rfl (Nat.le_of_ble_eq_true rfl) rfl h0) rfl (Nat.le_of_ble_eq_true rfl) rfl rfl)))
theorem at175_51 : jm_at 175 51 = some (.iconst 0) := rfl
theorem at175_52 : jm_at 175 52 = some (.istore_n 1) := rfl
theorem u175_51 {S : Option (Nat × (Nat → Int32))} {H : jm_H} {Q : Option Value → jm_H → Prop} {r0 : Nat} : jm_w S 5 175 51 [.ref r0, .null] [] H Q = jm_w S 5 175 53 [.ref r0, .int (0 : Int32)] [] H Q := (jsci at175_51 rfl rfl).trans (js1 at175_52 rfl rfl rfl)
theorem at175_53 : jm_at 175 53 = some (.iload_n 1) := rfl
theorem at175_54 : jm_at 175 54 = some (.aload_n 0) := rfl
theorem at175_55 : jm_at 175 55 = some (.getfield 124) := rfl
theorem rv175g_124 : jm_rv 175 (.getfield 124) = (0, 12, 10, 0) := rfl
theorem at175_58 : jm_at 175 58 = some (.if_icmp .ge 25) := rfl
theorem u175_53 {S : Option (Nat × (Nat → Int32))} {H : jm_H} {Q : Option Value → jm_H → Prop} {r0 : Nat} {x1 : Int32} (h0 : jm_tg H r0 = 13) : jm_w S 5 175 53 [.ref r0, .int x1] [] H Q = if (jm_I H r0 10) ≤ x1 then jm_w S 5 175 83 [.ref r0, .int x1] [] H Q else jm_w S 5 175 61 [.ref r0, .int x1] [] H Q := (js1 at175_53 rfl rfl rfl).trans ((js1 at175_54 rfl rfl rfl).trans ((jsgI (H := H) at175_55 rv175g_124 (Or.inl rfl) h0 rfl).trans (jsif (P := (jm_I H r0 10) ≤ x1) at175_58 rfl rfl)))
theorem at175_61 : jm_at 175 61 = some (.aload_n 0) := rfl
theorem at175_62 : jm_at 175 62 = some (.getfield 20) := rfl
theorem rv175g_20 : jm_rv 175 (.getfield 20) = (0, 12, 5, 0) := rfl
theorem at175_65 : jm_at 175 65 = some (.iload_n 1) := rfl
theorem at175_66 : jm_at 175 66 = some (.iaload) := rfl
theorem at175_67 : jm_at 175 67 = some (.bipush 21) := rfl
theorem at175_69 : jm_at 175 69 = some (.if_icmp .ne 8) := rfl
theorem u175_61 {S : Option (Nat × (Nat → Int32))} {H : jm_H} {Q : Option Value → jm_H → Prop} {r0 : Nat} {x1 : Int32} (h0 : jm_tg H r0 = 13) (h1 : ¬ jm_R H r0 5 = 0) (h2 : ¬ (x1 < 0 ∨ jm_ln H (jm_R H r0 5) ≤ Int32.toNatClampNeg x1)) (h3 : ¬ (jm_R H r0 5) = 1) (h4 : jm_tg H (jm_R H r0 5) = 100) : jm_w S 5 175 61 [.ref r0, .int x1] [] H Q = if ¬ (jm_I H (jm_R H r0 5) (Int32.toNatClampNeg x1)) = (21 : Int32) then jm_w S 5 175 77 [.ref r0, .int x1] [] H Q else jm_w S 5 175 72 [.ref r0, .int x1] [] H Q := (js1 at175_61 rfl rfl rfl).trans ((jsgR (H := H) at175_62 rv175g_20 rfl h0 h1 rfl).trans ((js1 at175_65 rfl rfl rfl).trans ((jsial (H := H) at175_66 h3 h4 h2 rfl).trans ((jscb at175_67 rfl rfl).trans (jsif (P := ¬ (jm_I H (jm_R H r0 5) (Int32.toNatClampNeg x1)) = (21 : Int32)) at175_69 rfl rfl)))))
theorem at175_72 : jm_at 175 72 = some (.aload_n 0) := rfl
theorem at175_73 : jm_at 175 73 = some (.iload_n 1) := rfl
theorem at175_74 : jm_at 175 74 = some (.invokevirtual 226) := rfl
theorem rv175i_226 : jm_rv 175 (.invokevirtual 226) = (2, 178, 0, 0) := rfl
theorem u175_72 {S : Option (Nat × (Nat → Int32))} {H : jm_H} {Q : Option Value → jm_H → Prop} {r0 : Nat} {x1 : Int32} (h0 : jm_tg H r0 = 13) : jm_w S 5 175 72 [.ref r0, .int x1] [] H Q = jm_c S 178 [.ref r0, .int x1] H (fun v G => jm_w S 5 175 77 [.ref r0, .int x1] (v.toList ++ []) G Q) := (js1 at175_72 rfl rfl rfl).trans ((js1 at175_73 rfl rfl rfl).trans (jscall (H := H) (as := [.ref r0, .int x1]) (q := []) at175_74 rfl rv175i_226 (jscutV rfl rfl rfl (Nat.le_of_ble_eq_true rfl) rfl h0) rfl (Nat.le_of_ble_eq_true rfl) rfl rfl))
theorem at175_77 : jm_at 175 77 = some (.iinc 1 1) := rfl
theorem at175_80 : jm_at 175 80 = some (.goto (-27)) := rfl
theorem u175_77 {S : Option (Nat × (Nat → Int32))} {H : jm_H} {Q : Option Value → jm_H → Prop} {r0 : Nat} {x1 : Int32} : jm_w S 5 175 77 [.ref r0, .int x1] [] H Q = jm_w S 5 175 53 [.ref r0, .int (x1 + 1)] [] H Q := (jsinc at175_77 rfl rfl rfl).trans (js2 at175_80 rfl rfl)
theorem at175_83 : jm_at 175 83 = some (.return_) := rfl
theorem u175_83 {S : Option (Nat × (Nat → Int32))} {H : jm_H} {Q : Option Value → jm_H → Prop} {r0 : Nat} {x1 : Int32} : jm_w S 5 175 83 [.ref r0, .int x1] [] H Q = Q none H := jsret_v at175_83 rfl
theorem en175 {S : Option (Nat × (Nat → Int32))} {H : jm_H} {Q : Option Value → jm_H → Prop} {r0 : Nat} : jm_c S 175 [.ref r0] H Q = jm_w S 5 175 0 [.ref r0, .null] [] H Q := rfl
theorem at176_0 : jm_at 176 0 = some (.iload_n 0) := rfl
theorem at176_1 : jm_at 176 1 = some (.iload_n 1) := rfl
theorem at176_2 : jm_at 176 2 = some (.if_icmp .lt 12) := rfl
theorem u176_0 {S : Option (Nat × (Nat → Int32))} {H : jm_H} {Q : Option Value → jm_H → Prop} {x0 x1 x2 : Int32} : jm_w S 1 176 0 [.int x0, .int x1, .int x2] [] H Q = if x0 < x1 then jm_w S 1 176 14 [.int x0, .int x1, .int x2] [] H Q else jm_w S 1 176 5 [.int x0, .int x1, .int x2] [] H Q := (js1 at176_0 rfl rfl rfl).trans ((js1 at176_1 rfl rfl rfl).trans (jsif (P := x0 < x1) at176_2 rfl rfl))
theorem at176_5 : jm_at 176 5 = some (.iload_n 0) := rfl
theorem at176_6 : jm_at 176 6 = some (.iload_n 2) := rfl
theorem at176_7 : jm_at 176 7 = some (.if_icmp .gt 7) := rfl
theorem u176_5 {S : Option (Nat × (Nat → Int32))} {H : jm_H} {Q : Option Value → jm_H → Prop} {x0 x1 x2 : Int32} : jm_w S 1 176 5 [.int x0, .int x1, .int x2] [] H Q = if x2 < x0 then jm_w S 1 176 14 [.int x0, .int x1, .int x2] [] H Q else jm_w S 1 176 10 [.int x0, .int x1, .int x2] [] H Q := (js1 at176_5 rfl rfl rfl).trans ((js1 at176_6 rfl rfl rfl).trans (jsif (P := x2 < x0) at176_7 rfl rfl))
theorem at176_10 : jm_at 176 10 = some (.iconst 1) := rfl
theorem at176_11 : jm_at 176 11 = some (.goto 4) := rfl
theorem u176_10 {S : Option (Nat × (Nat → Int32))} {H : jm_H} {Q : Option Value → jm_H → Prop} {x0 x1 x2 : Int32} : jm_w S 1 176 10 [.int x0, .int x1, .int x2] [] H Q = jm_w S 1 176 15 [.int x0, .int x1, .int x2] [.int (1 : Int32)] H Q := (jsci at176_10 rfl rfl).trans (js2 at176_11 rfl rfl)
theorem at176_14 : jm_at 176 14 = some (.iconst 0) := rfl
theorem u176_14 {S : Option (Nat × (Nat → Int32))} {H : jm_H} {Q : Option Value → jm_H → Prop} {x0 x1 x2 : Int32} : jm_w S 1 176 14 [.int x0, .int x1, .int x2] [] H Q = jm_w S 1 176 15 [.int x0, .int x1, .int x2] [.int (0 : Int32)] H Q := jsci at176_14 rfl rfl
theorem at176_15 : jm_at 176 15 = some (.ireturn) := rfl
theorem u176_15 {S : Option (Nat × (Nat → Int32))} {H : jm_H} {Q : Option Value → jm_H → Prop} {x0 x1 x2 p0 : Int32} (h0 : p0 = 0 ∨ p0 = 1) : jm_w S 1 176 15 [.int x0, .int x1, .int x2] [.int p0] H Q = Q (some (.int p0)) H := jsret_z at176_15 rfl h0
theorem en176 {S : Option (Nat × (Nat → Int32))} {H : jm_H} {Q : Option Value → jm_H → Prop} {x0 x1 x2 : Int32} : jm_c S 176 [.int x0, .int x1, .int x2] H Q = jm_w S 1 176 0 [.int x0, .int x1, .int x2] [] H Q := rfl
theorem at177_0 : jm_at 177 0 = some (.aload_n 0) := rfl
theorem at177_1 : jm_at 177 1 = some (.getfield 24) := rfl
theorem rv177g_24 : jm_rv 177 (.getfield 24) = (0, 12, 6, 0) := rfl
theorem at177_4 : jm_at 177 4 = some (.iload_n 2) := rfl
theorem at177_5 : jm_at 177 5 = some (.iaload) := rfl
theorem at177_6 : jm_at 177 6 = some (.istore_n 3) := rfl
theorem at177_7 : jm_at 177 7 = some (.aload_n 0) := rfl
theorem at177_8 : jm_at 177 8 = some (.getfield 149) := rfl
theorem rv177g_149 : jm_rv 177 (.getfield 149) = (0, 12, 12, 0) := rfl
theorem at177_11 : jm_at 177 11 = some (.ifCond .gt 34) := rfl
theorem u177_0 {S : Option (Nat × (Nat → Int32))} {H : jm_H} {Q : Option Value → jm_H → Prop} {r0 : Nat} {x1 x2 : Int32} (h0 : jm_tg H r0 = 13) (h1 : ¬ jm_R H r0 6 = 0) (h2 : ¬ (x2 < 0 ∨ jm_ln H (jm_R H r0 6) ≤ Int32.toNatClampNeg x2)) (h3 : ¬ (jm_R H r0 6) = 1) (h4 : jm_tg H (jm_R H r0 6) = 100) : jm_w S 1 177 0 [.ref r0, .int x1, .int x2, .null] [] H Q = if 0 < (jm_I H r0 12) then jm_w S 1 177 45 [.ref r0, .int x1, .int x2, .int (jm_I H (jm_R H r0 6) (Int32.toNatClampNeg x2))] [] H Q else jm_w S 1 177 14 [.ref r0, .int x1, .int x2, .int (jm_I H (jm_R H r0 6) (Int32.toNatClampNeg x2))] [] H Q := (js1 at177_0 rfl rfl rfl).trans ((jsgR (H := H) at177_1 rv177g_24 rfl h0 h1 rfl).trans ((js1 at177_4 rfl rfl rfl).trans ((jsial (H := H) at177_5 h3 h4 h2 rfl).trans ((js1 at177_6 rfl rfl rfl).trans ((js1 at177_7 rfl rfl rfl).trans ((jsgI (H := H) at177_8 rv177g_149 (Or.inl rfl) h0 rfl).trans (jsif (P := 0 < (jm_I H r0 12)) at177_11 rfl rfl)))))))
theorem at177_14 : jm_at 177 14 = some (.aload_n 0) := rfl
theorem at177_15 : jm_at 177 15 = some (.getfield 158) := rfl
theorem rv177g_158 : jm_rv 177 (.getfield 158) = (0, 12, 14, 0) := rfl
theorem at177_18 : jm_at 177 18 = some (.ifCond .eq 28) := rfl
theorem u177_14 {S : Option (Nat × (Nat → Int32))} {H : jm_H} {Q : Option Value → jm_H → Prop} {r0 : Nat} {x1 x2 x3 : Int32} (h0 : jm_tg H r0 = 13) : jm_w S 1 177 14 [.ref r0, .int x1, .int x2, .int x3] [] H Q = if (jm_I H r0 14) = 0 then jm_w S 1 177 46 [.ref r0, .int x1, .int x2, .int x3] [] H Q else jm_w S 1 177 21 [.ref r0, .int x1, .int x2, .int x3] [] H Q := (js1 at177_14 rfl rfl rfl).trans ((jsgI (H := H) at177_15 rv177g_158 (Or.inl rfl) h0 rfl).trans (jsif (P := (jm_I H r0 14) = 0) at177_18 rfl rfl))
theorem at177_21 : jm_at 177 21 = some (.iload_n 3) := rfl
theorem at177_22 : jm_at 177 22 = some (.aload_n 0) := rfl
theorem at177_23 : jm_at 177 23 = some (.getfield 161) := rfl
theorem rv177g_161 : jm_rv 177 (.getfield 161) = (0, 12, 15, 0) := rfl
theorem at177_26 : jm_at 177 26 = some (.if_icmp .gt 19) := rfl
theorem u177_21 {S : Option (Nat × (Nat → Int32))} {H : jm_H} {Q : Option Value → jm_H → Prop} {r0 : Nat} {x1 x2 x3 : Int32} (h0 : jm_tg H r0 = 13) : jm_w S 1 177 21 [.ref r0, .int x1, .int x2, .int x3] [] H Q = if (jm_I H r0 15) < x3 then jm_w S 1 177 45 [.ref r0, .int x1, .int x2, .int x3] [] H Q else jm_w S 1 177 29 [.ref r0, .int x1, .int x2, .int x3] [] H Q := (js1 at177_21 rfl rfl rfl).trans ((js1 at177_22 rfl rfl rfl).trans ((jsgI (H := H) at177_23 rv177g_161 (Or.inl rfl) h0 rfl).trans (jsif (P := (jm_I H r0 15) < x3) at177_26 rfl rfl)))
theorem at177_29 : jm_at 177 29 = some (.iload_n 3) := rfl
theorem at177_30 : jm_at 177 30 = some (.aload_n 0) := rfl
theorem at177_31 : jm_at 177 31 = some (.getfield 161) := rfl
theorem at177_34 : jm_at 177 34 = some (.if_icmp .ne 12) := rfl
theorem u177_29 {S : Option (Nat × (Nat → Int32))} {H : jm_H} {Q : Option Value → jm_H → Prop} {r0 : Nat} {x1 x2 x3 : Int32} (h0 : jm_tg H r0 = 13) : jm_w S 1 177 29 [.ref r0, .int x1, .int x2, .int x3] [] H Q = if ¬ x3 = (jm_I H r0 15) then jm_w S 1 177 46 [.ref r0, .int x1, .int x2, .int x3] [] H Q else jm_w S 1 177 37 [.ref r0, .int x1, .int x2, .int x3] [] H Q := (js1 at177_29 rfl rfl rfl).trans ((js1 at177_30 rfl rfl rfl).trans ((jsgI (H := H) at177_31 rv177g_161 (Or.inl rfl) h0 rfl).trans (jsif (P := ¬ x3 = (jm_I H r0 15)) at177_34 rfl rfl)))
theorem at177_37 : jm_at 177 37 = some (.iload_n 1) := rfl
theorem at177_38 : jm_at 177 38 = some (.aload_n 0) := rfl
theorem at177_39 : jm_at 177 39 = some (.getfield 158) := rfl
theorem at177_42 : jm_at 177 42 = some (.if_icmp .lt 4) := rfl
theorem u177_37 {S : Option (Nat × (Nat → Int32))} {H : jm_H} {Q : Option Value → jm_H → Prop} {r0 : Nat} {x1 x2 x3 : Int32} (h0 : jm_tg H r0 = 13) : jm_w S 1 177 37 [.ref r0, .int x1, .int x2, .int x3] [] H Q = if x1 < (jm_I H r0 14) then jm_w S 1 177 46 [.ref r0, .int x1, .int x2, .int x3] [] H Q else jm_w S 1 177 45 [.ref r0, .int x1, .int x2, .int x3] [] H Q := (js1 at177_37 rfl rfl rfl).trans ((js1 at177_38 rfl rfl rfl).trans ((jsgI (H := H) at177_39 rv177g_158 (Or.inl rfl) h0 rfl).trans (jsif (P := x1 < (jm_I H r0 14)) at177_42 rfl rfl)))
theorem at177_45 : jm_at 177 45 = some (.return_) := rfl
theorem u177_45 {S : Option (Nat × (Nat → Int32))} {H : jm_H} {Q : Option Value → jm_H → Prop} {r0 : Nat} {x1 x2 x3 : Int32} : jm_w S 1 177 45 [.ref r0, .int x1, .int x2, .int x3] [] H Q = Q none H := jsret_v at177_45 rfl
theorem at177_46 : jm_at 177 46 = some (.aload_n 0) := rfl
theorem at177_47 : jm_at 177 47 = some (.iload_n 1) := rfl
theorem at177_48 : jm_at 177 48 = some (.putfield 158) := rfl
theorem rv177p_158 : jm_rv 177 (.putfield 158) = (0, 12, 14, 0) := rfl
theorem at177_51 : jm_at 177 51 = some (.aload_n 0) := rfl
theorem at177_52 : jm_at 177 52 = some (.iload_n 3) := rfl
theorem at177_53 : jm_at 177 53 = some (.putfield 161) := rfl
theorem rv177p_161 : jm_rv 177 (.putfield 161) = (0, 12, 15, 0) := rfl
theorem at177_56 : jm_at 177 56 = some (.return_) := rfl
theorem u177_46 {S : Option (Nat × (Nat → Int32))} {H : jm_H} {Q : Option Value → jm_H → Prop} {r0 : Nat} {x1 x2 x3 : Int32} (h0 : jm_tg H r0 = 13) : jm_w S 1 177 46 [.ref r0, .int x1, .int x2, .int x3] [] H Q = Q none (jm_pI (jm_pI H r0 14 x1) r0 15 x3) := (js1 at177_46 rfl rfl rfl).trans ((js1 at177_47 rfl rfl rfl).trans ((jspI (H := H) at177_48 rv177p_158 rfl h0 rfl).trans ((js1 at177_51 rfl rfl rfl).trans ((js1 at177_52 rfl rfl rfl).trans ((jspI (H := (jm_pI H r0 14 x1)) at177_53 rv177p_161 rfl h0 rfl).trans (jsret_v at177_56 rfl))))))
theorem en177 {S : Option (Nat × (Nat → Int32))} {H : jm_H} {Q : Option Value → jm_H → Prop} {r0 : Nat} {x1 x2 : Int32} : jm_c S 177 [.ref r0, .int x1, .int x2] H Q = jm_w S 1 177 0 [.ref r0, .int x1, .int x2, .null] [] H Q := rfl
theorem at178_0 : jm_at 178 0 = some (.aload_n 0) := rfl
theorem at178_1 : jm_at 178 1 = some (.aload_n 0) := rfl
theorem at178_2 : jm_at 178 2 = some (.getfield 30) := rfl
theorem rv178g_30 : jm_rv 178 (.getfield 30) = (0, 12, 8, 0) := rfl
theorem at178_5 : jm_at 178 5 = some (.iload_n 1) := rfl
theorem at178_6 : jm_at 178 6 = some (.iconst 1) := rfl
theorem at178_7 : jm_at 178 7 = some (.iadd) := rfl
theorem at178_8 : jm_at 178 8 = some (.laload) := rfl
theorem at178_9 : jm_at 178 9 = some (.invokevirtual 238) := rfl
theorem rv178i_238 : jm_rv 178 (.invokevirtual 238) = (2, 179, 0, 0) := rfl
theorem u178_0 {S : Option (Nat × (Nat → Int32))} {H : jm_H} {Q : Option Value → jm_H → Prop} {r0 : Nat} {x1 : Int32} (h0 : jm_tg H r0 = 13) (h1 : ¬ jm_R H r0 8 = 0) (h2 : ¬ ((x1 + (1 : Int32)) < 0 ∨ jm_ln H (jm_R H r0 8) ≤ Int32.toNatClampNeg (x1 + (1 : Int32)))) (h3 : jm_tg H (jm_R H r0 8) = 101) : jm_w S 4 178 0 [.ref r0, .int x1, .null] [] H Q = jm_c S 179 [.ref r0, .long (jm_L H (jm_R H r0 8) (Int32.toNatClampNeg (x1 + (1 : Int32))))] H (fun v G => jm_w S 4 178 12 [.ref r0, .int x1, .null] (v.toList ++ []) G Q) := (js1 at178_0 rfl rfl rfl).trans ((js1 at178_1 rfl rfl rfl).trans ((jsgR (H := H) at178_2 rv178g_30 rfl h0 h1 rfl).trans ((js1 at178_5 rfl rfl rfl).trans ((jsci at178_6 rfl rfl).trans ((js0 at178_7 rfl rfl rfl).trans ((jslal (H := H) at178_8 h3 h2 rfl).trans (jscall (H := H) (as := [.ref r0, .long (jm_L H (jm_R H r0 8) (Int32.toNatClampNeg (x1 + (1 : Int32))))]) (q := []) at178_9 rfl rv178i_238 (jscutV rfl rfl rfl (Nat.le_of_ble_eq_true rfl) rfl h0) rfl (Nat.le_of_ble_eq_true rfl) rfl rfl)))))))
theorem at178_12 : jm_at 178 12 = some (.ifCond .lt 11) := rfl
theorem u178_12 {S : Option (Nat × (Nat → Int32))} {H : jm_H} {Q : Option Value → jm_H → Prop} {r0 : Nat} {x1 p0 : Int32} : jm_w S 4 178 12 [.ref r0, .int x1, .null] [.int p0] H Q = if p0 < 0 then jm_w S 4 178 23 [.ref r0, .int x1, .null] [] H Q else jm_w S 4 178 15 [.ref r0, .int x1, .null] [] H Q := jsif (P := p0 < 0) at178_12 rfl rfl
theorem at178_15 : jm_at 178 15 = some (.aload_n 0) := rfl
theorem at178_16 : jm_at 178 16 = some (.iconst 3) := rfl
theorem at178_17 : jm_at 178 17 = some (.iload_n 1) := rfl
theorem at178_18 : jm_at 178 18 = some (.iconst 1) := rfl
theorem at178_19 : jm_at 178 19 = some (.iadd) := rfl
theorem at178_20 : jm_at 178 20 = some (.invokevirtual 222) := rfl
theorem rv178i_222 : jm_rv 178 (.invokevirtual 222) = (2, 177, 0, 0) := rfl
theorem u178_15 {S : Option (Nat × (Nat → Int32))} {H : jm_H} {Q : Option Value → jm_H → Prop} {r0 : Nat} {x1 : Int32} (h0 : jm_tg H r0 = 13) : jm_w S 4 178 15 [.ref r0, .int x1, .null] [] H Q = jm_c S 177 [.ref r0, .int (3 : Int32), .int (x1 + (1 : Int32))] H (fun v G => jm_w S 4 178 23 [.ref r0, .int x1, .null] (v.toList ++ []) G Q) := (js1 at178_15 rfl rfl rfl).trans ((jsci at178_16 rfl rfl).trans ((js1 at178_17 rfl rfl rfl).trans ((jsci at178_18 rfl rfl).trans ((js0 at178_19 rfl rfl rfl).trans (jscall (H := H) (as := [.ref r0, .int (3 : Int32), .int (x1 + (1 : Int32))]) (q := []) at178_20 rfl rv178i_222 (jscutV rfl rfl rfl (Nat.le_of_ble_eq_true rfl) rfl h0) rfl (Nat.le_of_ble_eq_true rfl) rfl rfl)))))
theorem at178_23 : jm_at 178 23 = some (.aload_n 0) := rfl
theorem at178_24 : jm_at 178 24 = some (.getfield 64) := rfl
theorem rv178g_64 : jm_rv 178 (.getfield 64) = (0, 12, 28, 0) := rfl
theorem at178_27 : jm_at 178 27 = some (.aload_n 0) := rfl
theorem at178_28 : jm_at 178 28 = some (.getfield 197) := rfl
theorem rv178g_197 : jm_rv 178 (.getfield 197) = (0, 12, 30, 0) := rfl
theorem at178_31 : jm_at 178 31 = some (.aload_n 0) := rfl
theorem at178_32 : jm_at 178 32 = some (.getfield 191) := rfl
theorem rv178g_191 : jm_rv 178 (.getfield 191) = (0, 12, 29, 0) := rfl
theorem at178_35 : jm_at 178 35 = some (.iastore) := rfl
theorem at178_36 : jm_at 178 36 = some (.aload_n 0) := rfl
theorem at178_37 : jm_at 178 37 = some (.iconst 0) := rfl
theorem at178_38 : jm_at 178 38 = some (.putfield 229) := rfl
theorem rv178p_229 : jm_rv 178 (.putfield 229) = (0, 12, 36, 0) := rfl
theorem at178_41 : jm_at 178 41 = some (.iload_n 1) := rfl
theorem at178_42 : jm_at 178 42 = some (.iconst 2) := rfl
theorem at178_43 : jm_at 178 43 = some (.iadd) := rfl
theorem at178_44 : jm_at 178 44 = some (.istore_n 2) := rfl
theorem u178_23 {S : Option (Nat × (Nat → Int32))} {H : jm_H} {Q : Option Value → jm_H → Prop} {r0 : Nat} {x1 : Int32} (h0 : jm_tg H r0 = 13) (h1 : ¬ jm_R H r0 28 = 0) (h2 : ¬ ((jm_I H r0 30) < 0 ∨ jm_ln H (jm_R H r0 28) ≤ Int32.toNatClampNeg (jm_I H r0 30))) (h3 : jm_tg H (jm_R H r0 28) = 100) : jm_w S 4 178 23 [.ref r0, .int x1, .null] [] H Q = jm_w S 4 178 45 [.ref r0, .int x1, .int (x1 + (2 : Int32))] [] (jm_pI (jm_pI H (jm_R H r0 28) (Int32.toNatClampNeg (jm_I H r0 30)) (jm_I H r0 29)) r0 36 (0 : Int32)) Q := (js1 at178_23 rfl rfl rfl).trans ((jsgR (H := H) at178_24 rv178g_64 rfl h0 h1 rfl).trans ((js1 at178_27 rfl rfl rfl).trans ((jsgI (H := H) at178_28 rv178g_197 (Or.inl rfl) h0 rfl).trans ((js1 at178_31 rfl rfl rfl).trans ((jsgI (H := H) at178_32 rv178g_191 (Or.inl rfl) h0 rfl).trans ((jsias (H := H) at178_35 h3 h2 rfl).trans ((js1 at178_36 rfl rfl rfl).trans ((jsci at178_37 rfl rfl).trans ((jspI (H := (jm_pI H (jm_R H r0 28) (Int32.toNatClampNeg (jm_I H r0 30)) (jm_I H r0 29))) at178_38 rv178p_229 rfl h0 rfl).trans ((js1 at178_41 rfl rfl rfl).trans ((jsci at178_42 rfl rfl).trans ((js0 at178_43 rfl rfl rfl).trans (js1 at178_44 rfl rfl rfl)))))))))))))
theorem at178_45 : jm_at 178 45 = some (.aload_n 0) := rfl
theorem at178_46 : jm_at 178 46 = some (.getfield 20) := rfl
theorem rv178g_20 : jm_rv 178 (.getfield 20) = (0, 12, 5, 0) := rfl
theorem at178_49 : jm_at 178 49 = some (.iload_n 2) := rfl
theorem at178_50 : jm_at 178 50 = some (.iaload) := rfl
theorem at178_51 : jm_at 178 51 = some (.iconst 4) := rfl
theorem at178_52 : jm_at 178 52 = some (.if_icmp .eq 26) := rfl
theorem u178_45 {S : Option (Nat × (Nat → Int32))} {H : jm_H} {Q : Option Value → jm_H → Prop} {r0 : Nat} {x1 x2 : Int32} (h0 : jm_tg H r0 = 13) (h1 : ¬ jm_R H r0 5 = 0) (h2 : ¬ (x2 < 0 ∨ jm_ln H (jm_R H r0 5) ≤ Int32.toNatClampNeg x2)) (h3 : ¬ (jm_R H r0 5) = 1) (h4 : jm_tg H (jm_R H r0 5) = 100) : jm_w S 4 178 45 [.ref r0, .int x1, .int x2] [] H Q = if (jm_I H (jm_R H r0 5) (Int32.toNatClampNeg x2)) = (4 : Int32) then jm_w S 4 178 78 [.ref r0, .int x1, .int x2] [] H Q else jm_w S 4 178 55 [.ref r0, .int x1, .int x2] [] H Q := (js1 at178_45 rfl rfl rfl).trans ((jsgR (H := H) at178_46 rv178g_20 rfl h0 h1 rfl).trans ((js1 at178_49 rfl rfl rfl).trans ((jsial (H := H) at178_50 h3 h4 h2 rfl).trans ((jsci at178_51 rfl rfl).trans (jsif (P := (jm_I H (jm_R H r0 5) (Int32.toNatClampNeg x2)) = (4 : Int32)) at178_52 rfl rfl)))))
theorem at178_55 : jm_at 178 55 = some (.aload_n 0) := rfl
theorem at178_56 : jm_at 178 56 = some (.iload_n 2) := rfl
theorem at178_57 : jm_at 178 57 = some (.iload_n 2) := rfl
theorem at178_58 : jm_at 178 58 = some (.iload_n 1) := rfl
theorem at178_59 : jm_at 178 59 = some (.iconst 2) := rfl
theorem at178_60 : jm_at 178 60 = some (.iadd) := rfl
theorem at178_61 : jm_at 178 61 = some (.if_icmp .ne 7) := rfl
theorem u178_55 {S : Option (Nat × (Nat → Int32))} {H : jm_H} {Q : Option Value → jm_H → Prop} {r0 : Nat} {x1 x2 : Int32} : jm_w S 4 178 55 [.ref r0, .int x1, .int x2] [] H Q = if ¬ x2 = (x1 + (2 : Int32)) then jm_w S 4 178 68 [.ref r0, .int x1, .int x2] [.int x2, .ref r0] H Q else jm_w S 4 178 64 [.ref r0, .int x1, .int x2] [.int x2, .ref r0] H Q := (js1 at178_55 rfl rfl rfl).trans ((js1 at178_56 rfl rfl rfl).trans ((js1 at178_57 rfl rfl rfl).trans ((js1 at178_58 rfl rfl rfl).trans ((jsci at178_59 rfl rfl).trans ((js0 at178_60 rfl rfl rfl).trans (jsif (P := ¬ x2 = (x1 + (2 : Int32))) at178_61 rfl rfl))))))
theorem at178_64 : jm_at 178 64 = some (.iconst 1) := rfl
theorem at178_65 : jm_at 178 65 = some (.goto 4) := rfl
theorem u178_64 {S : Option (Nat × (Nat → Int32))} {H : jm_H} {Q : Option Value → jm_H → Prop} {r0 o0 : Nat} {x1 x2 p1 : Int32} : jm_w S 4 178 64 [.ref r0, .int x1, .int x2] [.int p1, .ref o0] H Q = jm_w S 4 178 69 [.ref r0, .int x1, .int x2] [.int (1 : Int32), .int p1, .ref o0] H Q := (jsci at178_64 rfl rfl).trans (js2 at178_65 rfl rfl)
theorem at178_68 : jm_at 178 68 = some (.iconst 0) := rfl
theorem u178_68 {S : Option (Nat × (Nat → Int32))} {H : jm_H} {Q : Option Value → jm_H → Prop} {r0 o0 : Nat} {x1 x2 p1 : Int32} : jm_w S 4 178 68 [.ref r0, .int x1, .int x2] [.int p1, .ref o0] H Q = jm_w S 4 178 69 [.ref r0, .int x1, .int x2] [.int (0 : Int32), .int p1, .ref o0] H Q := jsci at178_68 rfl rfl
theorem at178_69 : jm_at 178 69 = some (.invokevirtual 242) := rfl
theorem rv178i_242 : jm_rv 178 (.invokevirtual 242) = (2, 180, 0, 0) := rfl
theorem u178_69 {S : Option (Nat × (Nat → Int32))} {H : jm_H} {Q : Option Value → jm_H → Prop} {r0 o0 : Nat} {x1 x2 p1 p2 : Int32} (h0 : jm_tg H o0 = 13) : jm_w S 4 178 69 [.ref r0, .int x1, .int x2] [.int p2, .int p1, .ref o0] H Q = jm_c S 180 [.ref o0, .int p1, .int p2] H (fun v G => jm_w S 4 178 72 [.ref r0, .int x1, .int x2] (v.toList ++ []) G Q) := jscall (H := H) (as := [.ref o0, .int p1, .int p2]) (q := []) at178_69 rfl rv178i_242 (jscutV rfl rfl rfl (Nat.le_of_ble_eq_true rfl) rfl h0) rfl (Nat.le_of_ble_eq_true rfl) rfl rfl
theorem at178_72 : jm_at 178 72 = some (.iinc 2 1) := rfl
theorem at178_75 : jm_at 178 75 = some (.goto (-30)) := rfl
theorem u178_72 {S : Option (Nat × (Nat → Int32))} {H : jm_H} {Q : Option Value → jm_H → Prop} {r0 : Nat} {x1 x2 : Int32} : jm_w S 4 178 72 [.ref r0, .int x1, .int x2] [] H Q = jm_w S 4 178 45 [.ref r0, .int x1, .int (x2 + 1)] [] H Q := (jsinc at178_72 rfl rfl rfl).trans (js2 at178_75 rfl rfl)
theorem at178_78 : jm_at 178 78 = some (.aload_n 0) := rfl
theorem at178_79 : jm_at 178 79 = some (.iconst 1) := rfl
theorem at178_80 : jm_at 178 80 = some (.invokevirtual 246) := rfl
theorem rv178i_246 : jm_rv 178 (.invokevirtual 246) = (2, 183, 0, 0) := rfl
theorem u178_78 {S : Option (Nat × (Nat → Int32))} {H : jm_H} {Q : Option Value → jm_H → Prop} {r0 : Nat} {x1 x2 : Int32} (h0 : jm_tg H r0 = 13) : jm_w S 4 178 78 [.ref r0, .int x1, .int x2] [] H Q = jm_c S 183 [.ref r0, .int (1 : Int32)] H (fun v G => jm_w S 4 178 83 [.ref r0, .int x1, .int x2] (v.toList ++ []) G Q) := (js1 at178_78 rfl rfl rfl).trans ((jsci at178_79 rfl rfl).trans (jscall (H := H) (as := [.ref r0, .int (1 : Int32)]) (q := []) at178_80 rfl rv178i_246 (jscutV rfl rfl rfl (Nat.le_of_ble_eq_true rfl) rfl h0) rfl (Nat.le_of_ble_eq_true rfl) rfl rfl))
theorem at178_83 : jm_at 178 83 = some (.aload_n 0) := rfl
theorem at178_84 : jm_at 178 84 = some (.getfield 52) := rfl
theorem rv178g_52 : jm_rv 178 (.getfield 52) = (0, 12, 23, 0) := rfl
theorem at178_87 : jm_at 178 87 = some (.aload_n 0) := rfl
theorem at178_88 : jm_at 178 88 = some (.getfield 197) := rfl
theorem at178_91 : jm_at 178 91 = some (.aload_n 0) := rfl
theorem at178_92 : jm_at 178 92 = some (.getfield 30) := rfl
theorem at178_95 : jm_at 178 95 = some (.iload_n 1) := rfl
theorem at178_96 : jm_at 178 96 = some (.iconst 1) := rfl
theorem at178_97 : jm_at 178 97 = some (.iadd) := rfl
theorem at178_98 : jm_at 178 98 = some (.laload) := rfl
theorem at178_99 : jm_at 178 99 = some (.lastore) := rfl
theorem at178_100 : jm_at 178 100 = some (.aload_n 0) := rfl
theorem at178_101 : jm_at 178 101 = some (.dup) := rfl
theorem at178_102 : jm_at 178 102 = some (.getfield 197) := rfl
theorem at178_105 : jm_at 178 105 = some (.iconst 1) := rfl
theorem at178_106 : jm_at 178 106 = some (.iadd) := rfl
theorem at178_107 : jm_at 178 107 = some (.putfield 197) := rfl
theorem rv178p_197 : jm_rv 178 (.putfield 197) = (0, 12, 30, 0) := rfl
theorem at178_110 : jm_at 178 110 = some (.aload_n 0) := rfl
theorem at178_111 : jm_at 178 111 = some (.getfield 64) := rfl
theorem at178_114 : jm_at 178 114 = some (.aload_n 0) := rfl
theorem at178_115 : jm_at 178 115 = some (.getfield 197) := rfl
theorem at178_118 : jm_at 178 118 = some (.aload_n 0) := rfl
theorem at178_119 : jm_at 178 119 = some (.getfield 191) := rfl
theorem at178_122 : jm_at 178 122 = some (.iastore) := rfl
theorem at178_123 : jm_at 178 123 = some (.return_) := rfl
theorem u178_83 {S : Option (Nat × (Nat → Int32))} {H : jm_H} {Q : Option Value → jm_H → Prop} {r0 : Nat} {x1 x2 : Int32} (h0 : jm_tg H r0 = 13) (h1 : ¬ jm_R H r0 23 = 0) (h2 : ¬ jm_R H r0 8 = 0) (h3 : ¬ ((x1 + (1 : Int32)) < 0 ∨ jm_ln H (jm_R H r0 8) ≤ Int32.toNatClampNeg (x1 + (1 : Int32)))) (h4 : jm_tg H (jm_R H r0 8) = 101) (h5 : ¬ ((jm_I H r0 30) < 0 ∨ jm_ln H (jm_R H r0 23) ≤ Int32.toNatClampNeg (jm_I H r0 30))) (h6 : jm_tg H (jm_R H r0 23) = 101) (h7 : ¬ jm_R H r0 28 = 0) (h8 : ¬ ((jm_I (jm_pI (jm_pL H (jm_R H r0 23) (Int32.toNatClampNeg (jm_I H r0 30)) (jm_L H (jm_R H r0 8) (Int32.toNatClampNeg (x1 + (1 : Int32))))) r0 30 ((jm_I H r0 30) + (1 : Int32))) r0 30) < 0 ∨ jm_ln H (jm_R H r0 28) ≤ Int32.toNatClampNeg (jm_I (jm_pI (jm_pL H (jm_R H r0 23) (Int32.toNatClampNeg (jm_I H r0 30)) (jm_L H (jm_R H r0 8) (Int32.toNatClampNeg (x1 + (1 : Int32))))) r0 30 ((jm_I H r0 30) + (1 : Int32))) r0 30))) (h9 : jm_tg H (jm_R H r0 28) = 100) : jm_w S 4 178 83 [.ref r0, .int x1, .int x2] [] H Q = Q none (jm_pI (jm_pI (jm_pL H (jm_R H r0 23) (Int32.toNatClampNeg (jm_I H r0 30)) (jm_L H (jm_R H r0 8) (Int32.toNatClampNeg (x1 + (1 : Int32))))) r0 30 ((jm_I H r0 30) + (1 : Int32))) (jm_R H r0 28) (Int32.toNatClampNeg (jm_I (jm_pI (jm_pL H (jm_R H r0 23) (Int32.toNatClampNeg (jm_I H r0 30)) (jm_L H (jm_R H r0 8) (Int32.toNatClampNeg (x1 + (1 : Int32))))) r0 30 ((jm_I H r0 30) + (1 : Int32))) r0 30)) (jm_I (jm_pI (jm_pL H (jm_R H r0 23) (Int32.toNatClampNeg (jm_I H r0 30)) (jm_L H (jm_R H r0 8) (Int32.toNatClampNeg (x1 + (1 : Int32))))) r0 30 ((jm_I H r0 30) + (1 : Int32))) r0 29)) := (js1 at178_83 rfl rfl rfl).trans ((jsgR (H := H) at178_84 rv178g_52 rfl h0 h1 rfl).trans ((js1 at178_87 rfl rfl rfl).trans ((jsgI (H := H) at178_88 rv178g_197 (Or.inl rfl) h0 rfl).trans ((js1 at178_91 rfl rfl rfl).trans ((jsgR (H := H) at178_92 rv178g_30 rfl h0 h2 rfl).trans ((js1 at178_95 rfl rfl rfl).trans ((jsci at178_96 rfl rfl).trans ((js0 at178_97 rfl rfl rfl).trans ((jslal (H := H) at178_98 h4 h3 rfl).trans ((jslas (H := H) at178_99 h6 h5 rfl).trans ((js1 at178_100 rfl rfl rfl).trans ((js0 at178_101 rfl rfl rfl).trans ((jsgI (H := (jm_pL H (jm_R H r0 23) (Int32.toNatClampNeg (jm_I H r0 30)) (jm_L H (jm_R H r0 8) (Int32.toNatClampNeg (x1 + (1 : Int32)))))) at178_102 rv178g_197 (Or.inl rfl) h0 rfl).trans ((jsci at178_105 rfl rfl).trans ((js0 at178_106 rfl rfl rfl).trans ((jspI (H := (jm_pL H (jm_R H r0 23) (Int32.toNatClampNeg (jm_I H r0 30)) (jm_L H (jm_R H r0 8) (Int32.toNatClampNeg (x1 + (1 : Int32)))))) at178_107 rv178p_197 rfl h0 rfl).trans ((js1 at178_110 rfl rfl rfl).trans ((jsgR (H := (jm_pI (jm_pL H (jm_R H r0 23) (Int32.toNatClampNeg (jm_I H r0 30)) (jm_L H (jm_R H r0 8) (Int32.toNatClampNeg (x1 + (1 : Int32))))) r0 30 ((jm_I H r0 30) + (1 : Int32)))) at178_111 rv178g_64 rfl h0 h7 rfl).trans ((js1 at178_114 rfl rfl rfl).trans ((jsgI (H := (jm_pI (jm_pL H (jm_R H r0 23) (Int32.toNatClampNeg (jm_I H r0 30)) (jm_L H (jm_R H r0 8) (Int32.toNatClampNeg (x1 + (1 : Int32))))) r0 30 ((jm_I H r0 30) + (1 : Int32)))) at178_115 rv178g_197 (Or.inl rfl) h0 rfl).trans ((js1 at178_118 rfl rfl rfl).trans ((jsgI (H := (jm_pI (jm_pL H (jm_R H r0 23) (Int32.toNatClampNeg (jm_I H r0 30)) (jm_L H (jm_R H r0 8) (Int32.toNatClampNeg (x1 + (1 : Int32))))) r0 30 ((jm_I H r0 30) + (1 : Int32)))) at178_119 rv178g_191 (Or.inl rfl) h0 rfl).trans ((jsias (H := (jm_pI (jm_pL H (jm_R H r0 23) (Int32.toNatClampNeg (jm_I H r0 30)) (jm_L H (jm_R H r0 8) (Int32.toNatClampNeg (x1 + (1 : Int32))))) r0 30 ((jm_I H r0 30) + (1 : Int32)))) at178_122 h9 h8 rfl).trans (jsret_v at178_123 rfl))))))))))))))))))))))))
theorem en178 {S : Option (Nat × (Nat → Int32))} {H : jm_H} {Q : Option Value → jm_H → Prop} {r0 : Nat} {x1 : Int32} : jm_c S 178 [.ref r0, .int x1] H Q = jm_w S 4 178 0 [.ref r0, .int x1, .null] [] H Q := rfl
theorem at179_0 : jm_at 179 0 = some (.iconst 0) := rfl
theorem at179_1 : jm_at 179 1 = some (.istore_n 3) := rfl
theorem u179_0 {S : Option (Nat × (Nat → Int32))} {H : jm_H} {Q : Option Value → jm_H → Prop} {r0 : Nat} {y1 : Int64} : jm_w S 1 179 0 [.ref r0, .long y1, .null, .null] [] H Q = jm_w S 1 179 2 [.ref r0, .long y1, .null, .int (0 : Int32)] [] H Q := (jsci at179_0 rfl rfl).trans (js1 at179_1 rfl rfl rfl)
theorem at179_2 : jm_at 179 2 = some (.iload_n 3) := rfl
theorem at179_3 : jm_at 179 3 = some (.aload_n 0) := rfl
theorem at179_4 : jm_at 179 4 = some (.getfield 197) := rfl
theorem rv179g_197 : jm_rv 179 (.getfield 197) = (0, 12, 30, 0) := rfl
theorem at179_7 : jm_at 179 7 = some (.if_icmp .ge 22) := rfl
theorem u179_2 {S : Option (Nat × (Nat → Int32))} {H : jm_H} {Q : Option Value → jm_H → Prop} {r0 : Nat} {y1 : Int64} {x3 : Int32} (h0 : jm_tg H r0 = 13) : jm_w S 1 179 2 [.ref r0, .long y1, .null, .int x3] [] H Q = if (jm_I H r0 30) ≤ x3 then jm_w S 1 179 29 [.ref r0, .long y1, .null, .int x3] [] H Q else jm_w S 1 179 10 [.ref r0, .long y1, .null, .int x3] [] H Q := (js1 at179_2 rfl rfl rfl).trans ((js1 at179_3 rfl rfl rfl).trans ((jsgI (H := H) at179_4 rv179g_197 (Or.inl rfl) h0 rfl).trans (jsif (P := (jm_I H r0 30) ≤ x3) at179_7 rfl rfl)))
theorem at179_10 : jm_at 179 10 = some (.aload_n 0) := rfl
theorem at179_11 : jm_at 179 11 = some (.getfield 52) := rfl
theorem rv179g_52 : jm_rv 179 (.getfield 52) = (0, 12, 23, 0) := rfl
theorem at179_14 : jm_at 179 14 = some (.iload_n 3) := rfl
theorem at179_15 : jm_at 179 15 = some (.laload) := rfl
theorem at179_16 : jm_at 179 16 = some (.lload_n 1) := rfl
theorem at179_17 : jm_at 179 17 = some (.lcmp) := rfl
theorem at179_18 : jm_at 179 18 = some (.ifCond .ne 5) := rfl
theorem u179_10 {S : Option (Nat × (Nat → Int32))} {H : jm_H} {Q : Option Value → jm_H → Prop} {r0 : Nat} {y1 : Int64} {x3 : Int32} (h0 : jm_tg H r0 = 13) (h1 : ¬ jm_R H r0 23 = 0) (h2 : ¬ (x3 < 0 ∨ jm_ln H (jm_R H r0 23) ≤ Int32.toNatClampNeg x3)) (h3 : jm_tg H (jm_R H r0 23) = 101) : jm_w S 1 179 10 [.ref r0, .long y1, .null, .int x3] [] H Q = if ¬ (lg_cmp (jm_L H (jm_R H r0 23) (Int32.toNatClampNeg x3)) y1) = 0 then jm_w S 1 179 23 [.ref r0, .long y1, .null, .int x3] [] H Q else jm_w S 1 179 21 [.ref r0, .long y1, .null, .int x3] [] H Q := (js1 at179_10 rfl rfl rfl).trans ((jsgR (H := H) at179_11 rv179g_52 rfl h0 h1 rfl).trans ((js1 at179_14 rfl rfl rfl).trans ((jslal (H := H) at179_15 h3 h2 rfl).trans ((js1 at179_16 rfl rfl rfl).trans ((js0 at179_17 rfl rfl rfl).trans (jsif (P := ¬ (lg_cmp (jm_L H (jm_R H r0 23) (Int32.toNatClampNeg x3)) y1) = 0) at179_18 rfl rfl))))))
theorem at179_21 : jm_at 179 21 = some (.iload_n 3) := rfl
theorem at179_22 : jm_at 179 22 = some (.ireturn) := rfl
theorem u179_21 {S : Option (Nat × (Nat → Int32))} {H : jm_H} {Q : Option Value → jm_H → Prop} {r0 : Nat} {y1 : Int64} {x3 : Int32} : jm_w S 1 179 21 [.ref r0, .long y1, .null, .int x3] [] H Q = Q (some (.int x3)) H := (js1 at179_21 rfl rfl rfl).trans (jsret_i at179_22 rfl)
theorem at179_23 : jm_at 179 23 = some (.iinc 3 1) := rfl
theorem at179_26 : jm_at 179 26 = some (.goto (-24)) := rfl
theorem u179_23 {S : Option (Nat × (Nat → Int32))} {H : jm_H} {Q : Option Value → jm_H → Prop} {r0 : Nat} {y1 : Int64} {x3 : Int32} : jm_w S 1 179 23 [.ref r0, .long y1, .null, .int x3] [] H Q = jm_w S 1 179 2 [.ref r0, .long y1, .null, .int (x3 + 1)] [] H Q := (jsinc at179_23 rfl rfl rfl).trans (js2 at179_26 rfl rfl)
theorem at179_29 : jm_at 179 29 = some (.iconst (-1)) := rfl
theorem at179_30 : jm_at 179 30 = some (.ireturn) := rfl
theorem u179_29 {S : Option (Nat × (Nat → Int32))} {H : jm_H} {Q : Option Value → jm_H → Prop} {r0 : Nat} {y1 : Int64} {x3 : Int32} : jm_w S 1 179 29 [.ref r0, .long y1, .null, .int x3] [] H Q = Q (some (.int (-1 : Int32))) H := (jsci at179_29 rfl rfl).trans (jsret_i at179_30 rfl)
theorem en179 {S : Option (Nat × (Nat → Int32))} {H : jm_H} {Q : Option Value → jm_H → Prop} {r0 : Nat} {y1 : Int64} : jm_c S 179 [.ref r0, .long y1] H Q = jm_w S 1 179 0 [.ref r0, .long y1, .null, .null] [] H Q := rfl
theorem at180_0 : jm_at 180 0 = some (.aload_n 0) := rfl
theorem at180_1 : jm_at 180 1 = some (.getfield 20) := rfl
theorem rv180g_20 : jm_rv 180 (.getfield 20) = (0, 12, 5, 0) := rfl
theorem at180_4 : jm_at 180 4 = some (.iload_n 1) := rfl
theorem at180_5 : jm_at 180 5 = some (.iaload) := rfl
theorem u180_0 {S : Option (Nat × (Nat → Int32))} {H : jm_H} {Q : Option Value → jm_H → Prop} {r0 : Nat} {x1 x2 : Int32} (h0 : jm_tg H r0 = 13) (h1 : ¬ jm_R H r0 5 = 0) (h2 : ¬ (x1 < 0 ∨ jm_ln H (jm_R H r0 5) ≤ Int32.toNatClampNeg x1)) (h3 : ¬ (jm_R H r0 5) = 1) (h4 : jm_tg H (jm_R H r0 5) = 100) : jm_w S 3 180 0 [.ref r0, .int x1, .int x2, .null] [] H Q = jm_w S 3 180 6 [.ref r0, .int x1, .int x2, .null] [.int (jm_I H (jm_R H r0 5) (Int32.toNatClampNeg x1))] H Q := (js1 at180_0 rfl rfl rfl).trans ((jsgR (H := H) at180_1 rv180g_20 rfl h0 h1 rfl).trans ((js1 at180_4 rfl rfl rfl).trans (jsial (H := H) at180_5 h3 h4 h2 rfl)))
theorem at180_6 : jm_at 180 6 = some (.tableswitch 324 1 11 #[72, 58, 324, 324, 282, 221, 295, 295, 102, 169, 146]) := rfl
theorem u180_6_1 {S : Option (Nat × (Nat → Int32))} {H : jm_H} {Q : Option Value → jm_H → Prop} {r0 : Nat} {x1 x2 : Int32} : jm_w S 3 180 6 [.ref r0, .int x1, .int x2, .null] [.int 1] H Q = jm_w S 3 180 78 [.ref r0, .int x1, .int x2, .null] [] H Q := js2 at180_6 rfl rfl
theorem u180_6_2 {S : Option (Nat × (Nat → Int32))} {H : jm_H} {Q : Option Value → jm_H → Prop} {r0 : Nat} {x1 x2 : Int32} : jm_w S 3 180 6 [.ref r0, .int x1, .int x2, .null] [.int 2] H Q = jm_w S 3 180 64 [.ref r0, .int x1, .int x2, .null] [] H Q := js2 at180_6 rfl rfl
theorem u180_6_3 {S : Option (Nat × (Nat → Int32))} {H : jm_H} {Q : Option Value → jm_H → Prop} {r0 : Nat} {x1 x2 : Int32} : jm_w S 3 180 6 [.ref r0, .int x1, .int x2, .null] [.int 3] H Q = jm_w S 3 180 330 [.ref r0, .int x1, .int x2, .null] [] H Q := js2 at180_6 rfl rfl
theorem u180_6_4 {S : Option (Nat × (Nat → Int32))} {H : jm_H} {Q : Option Value → jm_H → Prop} {r0 : Nat} {x1 x2 : Int32} : jm_w S 3 180 6 [.ref r0, .int x1, .int x2, .null] [.int 4] H Q = jm_w S 3 180 330 [.ref r0, .int x1, .int x2, .null] [] H Q := js2 at180_6 rfl rfl
theorem u180_6_5 {S : Option (Nat × (Nat → Int32))} {H : jm_H} {Q : Option Value → jm_H → Prop} {r0 : Nat} {x1 x2 : Int32} : jm_w S 3 180 6 [.ref r0, .int x1, .int x2, .null] [.int 5] H Q = jm_w S 3 180 288 [.ref r0, .int x1, .int x2, .null] [] H Q := js2 at180_6 rfl rfl
theorem u180_6_6 {S : Option (Nat × (Nat → Int32))} {H : jm_H} {Q : Option Value → jm_H → Prop} {r0 : Nat} {x1 x2 : Int32} : jm_w S 3 180 6 [.ref r0, .int x1, .int x2, .null] [.int 6] H Q = jm_w S 3 180 227 [.ref r0, .int x1, .int x2, .null] [] H Q := js2 at180_6 rfl rfl
theorem u180_6_7 {S : Option (Nat × (Nat → Int32))} {H : jm_H} {Q : Option Value → jm_H → Prop} {r0 : Nat} {x1 x2 : Int32} : jm_w S 3 180 6 [.ref r0, .int x1, .int x2, .null] [.int 7] H Q = jm_w S 3 180 301 [.ref r0, .int x1, .int x2, .null] [] H Q := js2 at180_6 rfl rfl
theorem u180_6_8 {S : Option (Nat × (Nat → Int32))} {H : jm_H} {Q : Option Value → jm_H → Prop} {r0 : Nat} {x1 x2 : Int32} : jm_w S 3 180 6 [.ref r0, .int x1, .int x2, .null] [.int 8] H Q = jm_w S 3 180 301 [.ref r0, .int x1, .int x2, .null] [] H Q := js2 at180_6 rfl rfl
theorem u180_6_9 {S : Option (Nat × (Nat → Int32))} {H : jm_H} {Q : Option Value → jm_H → Prop} {r0 : Nat} {x1 x2 : Int32} : jm_w S 3 180 6 [.ref r0, .int x1, .int x2, .null] [.int 9] H Q = jm_w S 3 180 108 [.ref r0, .int x1, .int x2, .null] [] H Q := js2 at180_6 rfl rfl
theorem u180_6_10 {S : Option (Nat × (Nat → Int32))} {H : jm_H} {Q : Option Value → jm_H → Prop} {r0 : Nat} {x1 x2 : Int32} : jm_w S 3 180 6 [.ref r0, .int x1, .int x2, .null] [.int 10] H Q = jm_w S 3 180 175 [.ref r0, .int x1, .int x2, .null] [] H Q := js2 at180_6 rfl rfl
theorem u180_6_11 {S : Option (Nat × (Nat → Int32))} {H : jm_H} {Q : Option Value → jm_H → Prop} {r0 : Nat} {x1 x2 : Int32} : jm_w S 3 180 6 [.ref r0, .int x1, .int x2, .null] [.int 11] H Q = jm_w S 3 180 152 [.ref r0, .int x1, .int x2, .null] [] H Q := js2 at180_6 rfl rfl
theorem u180_6_d {S : Option (Nat × (Nat → Int32))} {H : jm_H} {Q : Option Value → jm_H → Prop} {r0 : Nat} {x1 x2 p0 : Int32} (h : Int32.toInt p0 < 1 ∨ 11 < Int32.toInt p0) : jm_w S 3 180 6 [.ref r0, .int x1, .int x2, .null] [.int p0] H Q = jm_w S 3 180 330 [.ref r0, .int x1, .int x2, .null] [] H Q := js2 at180_6 rfl ((if_pos h).trans rfl)
theorem at180_64 : jm_at 180 64 = some (.aload_n 0) := rfl
theorem at180_65 : jm_at 180 65 = some (.iconst 0) := rfl
theorem at180_66 : jm_at 180 66 = some (.aload_n 0) := rfl
theorem at180_67 : jm_at 180 67 = some (.getfield 27) := rfl
theorem rv180g_27 : jm_rv 180 (.getfield 27) = (0, 12, 7, 0) := rfl
theorem at180_70 : jm_at 180 70 = some (.iload_n 1) := rfl
theorem at180_71 : jm_at 180 71 = some (.iaload) := rfl
theorem at180_72 : jm_at 180 72 = some (.invokevirtual 235) := rfl
theorem rv180i_235 : jm_rv 180 (.invokevirtual 235) = (2, 181, 0, 0) := rfl
theorem u180_64 {S : Option (Nat × (Nat → Int32))} {H : jm_H} {Q : Option Value → jm_H → Prop} {r0 : Nat} {x1 x2 : Int32} (h0 : jm_tg H r0 = 13) (h1 : ¬ jm_R H r0 7 = 0) (h2 : ¬ (x1 < 0 ∨ jm_ln H (jm_R H r0 7) ≤ Int32.toNatClampNeg x1)) (h3 : ¬ (jm_R H r0 7) = 1) (h4 : jm_tg H (jm_R H r0 7) = 100) : jm_w S 3 180 64 [.ref r0, .int x1, .int x2, .null] [] H Q = jm_c S 181 [.ref r0, .int (0 : Int32), .int (jm_I H (jm_R H r0 7) (Int32.toNatClampNeg x1))] H (fun v G => jm_w S 3 180 75 [.ref r0, .int x1, .int x2, .null] (v.toList ++ []) G Q) := (js1 at180_64 rfl rfl rfl).trans ((jsci at180_65 rfl rfl).trans ((js1 at180_66 rfl rfl rfl).trans ((jsgR (H := H) at180_67 rv180g_27 rfl h0 h1 rfl).trans ((js1 at180_70 rfl rfl rfl).trans ((jsial (H := H) at180_71 h3 h4 h2 rfl).trans (jscall (H := H) (as := [.ref r0, .int (0 : Int32), .int (jm_I H (jm_R H r0 7) (Int32.toNatClampNeg x1))]) (q := []) at180_72 rfl rv180i_235 (jscutV rfl rfl rfl (Nat.le_of_ble_eq_true rfl) rfl h0) rfl (Nat.le_of_ble_eq_true rfl) rfl rfl))))))
theorem at180_75 : jm_at 180 75 = some (.goto 255) := rfl
theorem u180_75 {S : Option (Nat × (Nat → Int32))} {H : jm_H} {Q : Option Value → jm_H → Prop} {r0 : Nat} {x1 x2 : Int32} : jm_w S 3 180 75 [.ref r0, .int x1, .int x2, .null] [] H Q = jm_w S 3 180 330 [.ref r0, .int x1, .int x2, .null] [] H Q := js2 at180_75 rfl rfl
theorem at180_78 : jm_at 180 78 = some (.aload_n 0) := rfl
theorem at180_79 : jm_at 180 79 = some (.aload_n 0) := rfl
theorem at180_80 : jm_at 180 80 = some (.getfield 30) := rfl
theorem rv180g_30 : jm_rv 180 (.getfield 30) = (0, 12, 8, 0) := rfl
theorem at180_83 : jm_at 180 83 = some (.iload_n 1) := rfl
theorem at180_84 : jm_at 180 84 = some (.laload) := rfl
theorem at180_85 : jm_at 180 85 = some (.invokevirtual 238) := rfl
theorem rv180i_238 : jm_rv 180 (.invokevirtual 238) = (2, 179, 0, 0) := rfl
theorem u180_78 {S : Option (Nat × (Nat → Int32))} {H : jm_H} {Q : Option Value → jm_H → Prop} {r0 : Nat} {x1 x2 : Int32} (h0 : jm_tg H r0 = 13) (h1 : ¬ jm_R H r0 8 = 0) (h2 : ¬ (x1 < 0 ∨ jm_ln H (jm_R H r0 8) ≤ Int32.toNatClampNeg x1)) (h3 : jm_tg H (jm_R H r0 8) = 101) : jm_w S 3 180 78 [.ref r0, .int x1, .int x2, .null] [] H Q = jm_c S 179 [.ref r0, .long (jm_L H (jm_R H r0 8) (Int32.toNatClampNeg x1))] H (fun v G => jm_w S 3 180 88 [.ref r0, .int x1, .int x2, .null] (v.toList ++ []) G Q) := (js1 at180_78 rfl rfl rfl).trans ((js1 at180_79 rfl rfl rfl).trans ((jsgR (H := H) at180_80 rv180g_30 rfl h0 h1 rfl).trans ((js1 at180_83 rfl rfl rfl).trans ((jslal (H := H) at180_84 h3 h2 rfl).trans (jscall (H := H) (as := [.ref r0, .long (jm_L H (jm_R H r0 8) (Int32.toNatClampNeg x1))]) (q := []) at180_85 rfl rv180i_238 (jscutV rfl rfl rfl (Nat.le_of_ble_eq_true rfl) rfl h0) rfl (Nat.le_of_ble_eq_true rfl) rfl rfl)))))
theorem at180_88 : jm_at 180 88 = some (.istore_n 3) := rfl
theorem at180_89 : jm_at 180 89 = some (.iload_n 3) := rfl
theorem at180_90 : jm_at 180 90 = some (.ifCond .ge 9) := rfl
theorem u180_88 {S : Option (Nat × (Nat → Int32))} {H : jm_H} {Q : Option Value → jm_H → Prop} {r0 : Nat} {x1 x2 p0 : Int32} : jm_w S 3 180 88 [.ref r0, .int x1, .int x2, .null] [.int p0] H Q = if 0 ≤ p0 then jm_w S 3 180 99 [.ref r0, .int x1, .int x2, .int p0] [] H Q else jm_w S 3 180 93 [.ref r0, .int x1, .int x2, .int p0] [] H Q := (js1 at180_88 rfl rfl rfl).trans ((js1 at180_89 rfl rfl rfl).trans (jsif (P := 0 ≤ p0) at180_90 rfl rfl))
theorem at180_93 : jm_at 180 93 = some (.aload_n 0) := rfl
theorem at180_94 : jm_at 180 94 = some (.iconst 4) := rfl
theorem at180_95 : jm_at 180 95 = some (.iload_n 1) := rfl
theorem at180_96 : jm_at 180 96 = some (.invokevirtual 222) := rfl
theorem rv180i_222 : jm_rv 180 (.invokevirtual 222) = (2, 177, 0, 0) := rfl
theorem u180_93 {S : Option (Nat × (Nat → Int32))} {H : jm_H} {Q : Option Value → jm_H → Prop} {r0 : Nat} {x1 x2 x3 : Int32} (h0 : jm_tg H r0 = 13) : jm_w S 3 180 93 [.ref r0, .int x1, .int x2, .int x3] [] H Q = jm_c S 177 [.ref r0, .int (4 : Int32), .int x1] H (fun v G => jm_w S 3 180 99 [.ref r0, .int x1, .int x2, .int x3] (v.toList ++ []) G Q) := (js1 at180_93 rfl rfl rfl).trans ((jsci at180_94 rfl rfl).trans ((js1 at180_95 rfl rfl rfl).trans (jscall (H := H) (as := [.ref r0, .int (4 : Int32), .int x1]) (q := []) at180_96 rfl rv180i_222 (jscutV rfl rfl rfl (Nat.le_of_ble_eq_true rfl) rfl h0) rfl (Nat.le_of_ble_eq_true rfl) rfl rfl)))
theorem at180_99 : jm_at 180 99 = some (.aload_n 0) := rfl
theorem at180_100 : jm_at 180 100 = some (.iconst 1) := rfl
theorem at180_101 : jm_at 180 101 = some (.iload_n 3) := rfl
theorem at180_102 : jm_at 180 102 = some (.invokevirtual 235) := rfl
theorem u180_99 {S : Option (Nat × (Nat → Int32))} {H : jm_H} {Q : Option Value → jm_H → Prop} {r0 : Nat} {x1 x2 x3 : Int32} (h0 : jm_tg H r0 = 13) : jm_w S 3 180 99 [.ref r0, .int x1, .int x2, .int x3] [] H Q = jm_c S 181 [.ref r0, .int (1 : Int32), .int x3] H (fun v G => jm_w S 3 180 105 [.ref r0, .int x1, .int x2, .int x3] (v.toList ++ []) G Q) := (js1 at180_99 rfl rfl rfl).trans ((jsci at180_100 rfl rfl).trans ((js1 at180_101 rfl rfl rfl).trans (jscall (H := H) (as := [.ref r0, .int (1 : Int32), .int x3]) (q := []) at180_102 rfl rv180i_235 (jscutV rfl rfl rfl (Nat.le_of_ble_eq_true rfl) rfl h0) rfl (Nat.le_of_ble_eq_true rfl) rfl rfl)))
theorem at180_105 : jm_at 180 105 = some (.goto 225) := rfl
theorem u180_105 {S : Option (Nat × (Nat → Int32))} {H : jm_H} {Q : Option Value → jm_H → Prop} {r0 : Nat} {x1 x2 x3 : Int32} : jm_w S 3 180 105 [.ref r0, .int x1, .int x2, .int x3] [] H Q = jm_w S 3 180 330 [.ref r0, .int x1, .int x2, .int x3] [] H Q := js2 at180_105 rfl rfl
theorem at180_108 : jm_at 180 108 = some (.aload_n 0) := rfl
theorem at180_109 : jm_at 180 109 = some (.aload_n 0) := rfl
theorem at180_110 : jm_at 180 110 = some (.getfield 20) := rfl
theorem at180_113 : jm_at 180 113 = some (.iload_n 1) := rfl
theorem at180_114 : jm_at 180 114 = some (.iconst 1) := rfl
theorem at180_115 : jm_at 180 115 = some (.isub) := rfl
theorem at180_116 : jm_at 180 116 = some (.iaload) := rfl
theorem at180_117 : jm_at 180 117 = some (.bipush 22) := rfl
theorem at180_119 : jm_at 180 119 = some (.if_icmp .ne 8) := rfl
theorem u180_108 {S : Option (Nat × (Nat → Int32))} {H : jm_H} {Q : Option Value → jm_H → Prop} {r0 : Nat} {x1 x2 : Int32} (h0 : jm_tg H r0 = 13) (h1 : ¬ jm_R H r0 5 = 0) (h2 : ¬ ((x1 - (1 : Int32)) < 0 ∨ jm_ln H (jm_R H r0 5) ≤ Int32.toNatClampNeg (x1 - (1 : Int32)))) (h3 : ¬ (jm_R H r0 5) = 1) (h4 : jm_tg H (jm_R H r0 5) = 100) : jm_w S 3 180 108 [.ref r0, .int x1, .int x2, .null] [] H Q = if ¬ (jm_I H (jm_R H r0 5) (Int32.toNatClampNeg (x1 - (1 : Int32)))) = (22 : Int32) then jm_w S 3 180 127 [.ref r0, .int x1, .int x2, .null] [.ref r0] H Q else jm_w S 3 180 122 [.ref r0, .int x1, .int x2, .null] [.ref r0] H Q := (js1 at180_108 rfl rfl rfl).trans ((js1 at180_109 rfl rfl rfl).trans ((jsgR (H := H) at180_110 rv180g_20 rfl h0 h1 rfl).trans ((js1 at180_113 rfl rfl rfl).trans ((jsci at180_114 rfl rfl).trans ((js0 at180_115 rfl rfl rfl).trans ((jsial (H := H) at180_116 h3 h4 h2 rfl).trans ((jscb at180_117 rfl rfl).trans (jsif (P := ¬ (jm_I H (jm_R H r0 5) (Int32.toNatClampNeg (x1 - (1 : Int32)))) = (22 : Int32)) at180_119 rfl rfl))))))))
theorem at180_122 : jm_at 180 122 = some (.bipush 7) := rfl
theorem at180_124 : jm_at 180 124 = some (.goto 22) := rfl
theorem u180_122 {S : Option (Nat × (Nat → Int32))} {H : jm_H} {Q : Option Value → jm_H → Prop} {r0 o0 : Nat} {x1 x2 : Int32} : jm_w S 3 180 122 [.ref r0, .int x1, .int x2, .null] [.ref o0] H Q = jm_w S 3 180 146 [.ref r0, .int x1, .int x2, .null] [.int (7 : Int32), .ref o0] H Q := (jscb at180_122 rfl rfl).trans (js2 at180_124 rfl rfl)
theorem at180_127 : jm_at 180 127 = some (.aload_n 0) := rfl
theorem at180_128 : jm_at 180 128 = some (.getfield 20) := rfl
theorem at180_131 : jm_at 180 131 = some (.iload_n 1) := rfl
theorem at180_132 : jm_at 180 132 = some (.iconst 1) := rfl
theorem at180_133 : jm_at 180 133 = some (.isub) := rfl
theorem at180_134 : jm_at 180 134 = some (.iaload) := rfl
theorem at180_135 : jm_at 180 135 = some (.bipush 23) := rfl
theorem at180_137 : jm_at 180 137 = some (.if_icmp .ne 8) := rfl
theorem u180_127 {S : Option (Nat × (Nat → Int32))} {H : jm_H} {Q : Option Value → jm_H → Prop} {r0 o0 : Nat} {x1 x2 : Int32} (h0 : jm_tg H r0 = 13) (h1 : ¬ jm_R H r0 5 = 0) (h2 : ¬ ((x1 - (1 : Int32)) < 0 ∨ jm_ln H (jm_R H r0 5) ≤ Int32.toNatClampNeg (x1 - (1 : Int32)))) (h3 : ¬ (jm_R H r0 5) = 1) (h4 : jm_tg H (jm_R H r0 5) = 100) : jm_w S 3 180 127 [.ref r0, .int x1, .int x2, .null] [.ref o0] H Q = if ¬ (jm_I H (jm_R H r0 5) (Int32.toNatClampNeg (x1 - (1 : Int32)))) = (23 : Int32) then jm_w S 3 180 145 [.ref r0, .int x1, .int x2, .null] [.ref o0] H Q else jm_w S 3 180 140 [.ref r0, .int x1, .int x2, .null] [.ref o0] H Q := (js1 at180_127 rfl rfl rfl).trans ((jsgR (H := H) at180_128 rv180g_20 rfl h0 h1 rfl).trans ((js1 at180_131 rfl rfl rfl).trans ((jsci at180_132 rfl rfl).trans ((js0 at180_133 rfl rfl rfl).trans ((jsial (H := H) at180_134 h3 h4 h2 rfl).trans ((jscb at180_135 rfl rfl).trans (jsif (P := ¬ (jm_I H (jm_R H r0 5) (Int32.toNatClampNeg (x1 - (1 : Int32)))) = (23 : Int32)) at180_137 rfl rfl)))))))
theorem at180_140 : jm_at 180 140 = some (.bipush 8) := rfl
theorem at180_142 : jm_at 180 142 = some (.goto 4) := rfl
theorem u180_140 {S : Option (Nat × (Nat → Int32))} {H : jm_H} {Q : Option Value → jm_H → Prop} {r0 o0 : Nat} {x1 x2 : Int32} : jm_w S 3 180 140 [.ref r0, .int x1, .int x2, .null] [.ref o0] H Q = jm_w S 3 180 146 [.ref r0, .int x1, .int x2, .null] [.int (8 : Int32), .ref o0] H Q := (jscb at180_140 rfl rfl).trans (js2 at180_142 rfl rfl)
theorem at180_145 : jm_at 180 145 = some (.iconst (-1)) := rfl
theorem u180_145 {S : Option (Nat × (Nat → Int32))} {H : jm_H} {Q : Option Value → jm_H → Prop} {r0 o0 : Nat} {x1 x2 : Int32} : jm_w S 3 180 145 [.ref r0, .int x1, .int x2, .null] [.ref o0] H Q = jm_w S 3 180 146 [.ref r0, .int x1, .int x2, .null] [.int (-1 : Int32), .ref o0] H Q := jsci at180_145 rfl rfl
theorem at180_146 : jm_at 180 146 = some (.invokevirtual 249) := rfl
theorem rv180i_249 : jm_rv 180 (.invokevirtual 249) = (2, 182, 0, 0) := rfl
theorem u180_146 {S : Option (Nat × (Nat → Int32))} {H : jm_H} {Q : Option Value → jm_H → Prop} {r0 o0 : Nat} {x1 x2 p1 : Int32} (h0 : jm_tg H o0 = 13) : jm_w S 3 180 146 [.ref r0, .int x1, .int x2, .null] [.int p1, .ref o0] H Q = jm_c S 182 [.ref o0, .int p1] H (fun v G => jm_w S 3 180 149 [.ref r0, .int x1, .int x2, .null] (v.toList ++ []) G Q) := jscall (H := H) (as := [.ref o0, .int p1]) (q := []) at180_146 rfl rv180i_249 (jscutV rfl rfl rfl (Nat.le_of_ble_eq_true rfl) rfl h0) rfl (Nat.le_of_ble_eq_true rfl) rfl rfl
theorem at180_149 : jm_at 180 149 = some (.goto 181) := rfl
theorem u180_149 {S : Option (Nat × (Nat → Int32))} {H : jm_H} {Q : Option Value → jm_H → Prop} {r0 : Nat} {x1 x2 : Int32} : jm_w S 3 180 149 [.ref r0, .int x1, .int x2, .null] [] H Q = jm_w S 3 180 330 [.ref r0, .int x1, .int x2, .null] [] H Q := js2 at180_149 rfl rfl
theorem at180_152 : jm_at 180 152 = some (.aload_n 0) := rfl
theorem at180_153 : jm_at 180 153 = some (.iconst 1) := rfl
theorem at180_154 : jm_at 180 154 = some (.invokevirtual 246) := rfl
theorem rv180i_246 : jm_rv 180 (.invokevirtual 246) = (2, 183, 0, 0) := rfl
theorem u180_152 {S : Option (Nat × (Nat → Int32))} {H : jm_H} {Q : Option Value → jm_H → Prop} {r0 : Nat} {x1 x2 : Int32} (h0 : jm_tg H r0 = 13) : jm_w S 3 180 152 [.ref r0, .int x1, .int x2, .null] [] H Q = jm_c S 183 [.ref r0, .int (1 : Int32)] H (fun v G => jm_w S 3 180 157 [.ref r0, .int x1, .int x2, .null] (v.toList ++ []) G Q) := (js1 at180_152 rfl rfl rfl).trans ((jsci at180_153 rfl rfl).trans (jscall (H := H) (as := [.ref r0, .int (1 : Int32)]) (q := []) at180_154 rfl rv180i_246 (jscutV rfl rfl rfl (Nat.le_of_ble_eq_true rfl) rfl h0) rfl (Nat.le_of_ble_eq_true rfl) rfl rfl))
theorem at180_157 : jm_at 180 157 = some (.aload_n 0) := rfl
theorem at180_158 : jm_at 180 158 = some (.getfield 76) := rfl
theorem rv180g_76 : jm_rv 180 (.getfield 76) = (0, 12, 35, 0) := rfl
theorem at180_161 : jm_at 180 161 = some (.aload_n 0) := rfl
theorem at180_162 : jm_at 180 162 = some (.getfield 229) := rfl
theorem rv180g_229 : jm_rv 180 (.getfield 229) = (0, 12, 36, 0) := rfl
theorem at180_165 : jm_at 180 165 = some (.iconst 1) := rfl
theorem at180_166 : jm_at 180 166 = some (.isub) := rfl
theorem at180_167 : jm_at 180 167 = some (.dup2) := rfl
theorem at180_168 : jm_at 180 168 = some (.iaload) := rfl
theorem at180_169 : jm_at 180 169 = some (.iconst 1) := rfl
theorem at180_170 : jm_at 180 170 = some (.iadd) := rfl
theorem at180_171 : jm_at 180 171 = some (.iastore) := rfl
theorem at180_172 : jm_at 180 172 = some (.goto 158) := rfl
theorem u180_157 {S : Option (Nat × (Nat → Int32))} {H : jm_H} {Q : Option Value → jm_H → Prop} {r0 : Nat} {x1 x2 : Int32} (h0 : jm_tg H r0 = 13) (h1 : ¬ jm_R H r0 35 = 0) (h2 : ¬ (((jm_I H r0 36) - (1 : Int32)) < 0 ∨ jm_ln H (jm_R H r0 35) ≤ Int32.toNatClampNeg ((jm_I H r0 36) - (1 : Int32)))) (h3 : ¬ (jm_R H r0 35) = 1) (h4 : jm_tg H (jm_R H r0 35) = 100) : jm_w S 3 180 157 [.ref r0, .int x1, .int x2, .null] [] H Q = jm_w S 3 180 330 [.ref r0, .int x1, .int x2, .null] [] (jm_pI H (jm_R H r0 35) (Int32.toNatClampNeg ((jm_I H r0 36) - (1 : Int32))) ((jm_I H (jm_R H r0 35) (Int32.toNatClampNeg ((jm_I H r0 36) - (1 : Int32)))) + (1 : Int32))) Q := (js1 at180_157 rfl rfl rfl).trans ((jsgR (H := H) at180_158 rv180g_76 rfl h0 h1 rfl).trans ((js1 at180_161 rfl rfl rfl).trans ((jsgI (H := H) at180_162 rv180g_229 (Or.inl rfl) h0 rfl).trans ((jsci at180_165 rfl rfl).trans ((js0 at180_166 rfl rfl rfl).trans ((js0 at180_167 rfl rfl rfl).trans ((jsial (H := H) at180_168 h3 h4 h2 rfl).trans ((jsci at180_169 rfl rfl).trans ((js0 at180_170 rfl rfl rfl).trans ((jsias (H := H) at180_171 h4 h2 rfl).trans (js2 at180_172 rfl rfl)))))))))))
theorem at180_175 : jm_at 180 175 = some (.aload_n 0) := rfl
theorem at180_176 : jm_at 180 176 = some (.iconst 1) := rfl
theorem at180_177 : jm_at 180 177 = some (.invokevirtual 246) := rfl
theorem u180_175 {S : Option (Nat × (Nat → Int32))} {H : jm_H} {Q : Option Value → jm_H → Prop} {r0 : Nat} {x1 x2 : Int32} (h0 : jm_tg H r0 = 13) : jm_w S 3 180 175 [.ref r0, .int x1, .int x2, .null] [] H Q = jm_c S 183 [.ref r0, .int (1 : Int32)] H (fun v G => jm_w S 3 180 180 [.ref r0, .int x1, .int x2, .null] (v.toList ++ []) G Q) := (js1 at180_175 rfl rfl rfl).trans ((jsci at180_176 rfl rfl).trans (jscall (H := H) (as := [.ref r0, .int (1 : Int32)]) (q := []) at180_177 rfl rv180i_246 (jscutV rfl rfl rfl (Nat.le_of_ble_eq_true rfl) rfl h0) rfl (Nat.le_of_ble_eq_true rfl) rfl rfl))
theorem at180_180 : jm_at 180 180 = some (.aload_n 0) := rfl
theorem at180_181 : jm_at 180 181 = some (.dup) := rfl
theorem at180_182 : jm_at 180 182 = some (.getfield 229) := rfl
theorem at180_185 : jm_at 180 185 = some (.iconst 1) := rfl
theorem at180_186 : jm_at 180 186 = some (.isub) := rfl
theorem at180_187 : jm_at 180 187 = some (.putfield 229) := rfl
theorem rv180p_229 : jm_rv 180 (.putfield 229) = (0, 12, 36, 0) := rfl
theorem at180_190 : jm_at 180 190 = some (.aload_n 0) := rfl
theorem at180_191 : jm_at 180 191 = some (.getfield 73) := rfl
theorem rv180g_73 : jm_rv 180 (.getfield 73) = (0, 12, 34, 0) := rfl
theorem at180_194 : jm_at 180 194 = some (.aload_n 0) := rfl
theorem at180_195 : jm_at 180 195 = some (.getfield 229) := rfl
theorem at180_198 : jm_at 180 198 = some (.iaload) := rfl
theorem at180_199 : jm_at 180 199 = some (.ifCond .lt 131) := rfl
theorem u180_180 {S : Option (Nat × (Nat → Int32))} {H : jm_H} {Q : Option Value → jm_H → Prop} {r0 : Nat} {x1 x2 : Int32} (h0 : jm_tg H r0 = 13) (h1 : ¬ jm_R H r0 34 = 0) (h2 : ¬ ((jm_I (jm_pI H r0 36 ((jm_I H r0 36) - (1 : Int32))) r0 36) < 0 ∨ jm_ln H (jm_R H r0 34) ≤ Int32.toNatClampNeg (jm_I (jm_pI H r0 36 ((jm_I H r0 36) - (1 : Int32))) r0 36))) (h3 : ¬ (jm_R H r0 34) = 1) (h4 : jm_tg H (jm_R H r0 34) = 100) : jm_w S 3 180 180 [.ref r0, .int x1, .int x2, .null] [] H Q = if (jm_I (jm_pI H r0 36 ((jm_I H r0 36) - (1 : Int32))) (jm_R H r0 34) (Int32.toNatClampNeg (jm_I (jm_pI H r0 36 ((jm_I H r0 36) - (1 : Int32))) r0 36))) < 0 then jm_w S 3 180 330 [.ref r0, .int x1, .int x2, .null] [] (jm_pI H r0 36 ((jm_I H r0 36) - (1 : Int32))) Q else jm_w S 3 180 202 [.ref r0, .int x1, .int x2, .null] [] (jm_pI H r0 36 ((jm_I H r0 36) - (1 : Int32))) Q := (js1 at180_180 rfl rfl rfl).trans ((js0 at180_181 rfl rfl rfl).trans ((jsgI (H := H) at180_182 rv180g_229 (Or.inl rfl) h0 rfl).trans ((jsci at180_185 rfl rfl).trans ((js0 at180_186 rfl rfl rfl).trans ((jspI (H := H) at180_187 rv180p_229 rfl h0 rfl).trans ((js1 at180_190 rfl rfl rfl).trans ((jsgR (H := (jm_pI H r0 36 ((jm_I H r0 36) - (1 : Int32)))) at180_191 rv180g_73 rfl h0 h1 rfl).trans ((js1 at180_194 rfl rfl rfl).trans ((jsgI (H := (jm_pI H r0 36 ((jm_I H r0 36) - (1 : Int32)))) at180_195 rv180g_229 (Or.inl rfl) h0 rfl).trans ((jsial (H := (jm_pI H r0 36 ((jm_I H r0 36) - (1 : Int32)))) at180_198 h3 h4 h2 rfl).trans (jsif (P := (jm_I (jm_pI H r0 36 ((jm_I H r0 36) - (1 : Int32))) (jm_R H r0 34) (Int32.toNatClampNeg (jm_I (jm_pI H r0 36 ((jm_I H r0 36) - (1 : Int32))) r0 36))) < 0) at180_199 rfl rfl)))))))))))
theorem at180_202 : jm_at 180 202 = some (.aload_n 0) := rfl
theorem at180_203 : jm_at 180 203 = some (.aload_n 0) := rfl
theorem at180_204 : jm_at 180 204 = some (.getfield 73) := rfl
theorem at180_207 : jm_at 180 207 = some (.aload_n 0) := rfl
theorem at180_208 : jm_at 180 208 = some (.getfield 229) := rfl
theorem at180_211 : jm_at 180 211 = some (.iaload) := rfl
theorem at180_212 : jm_at 180 212 = some (.aload_n 0) := rfl
theorem at180_213 : jm_at 180 213 = some (.getfield 76) := rfl
theorem at180_216 : jm_at 180 216 = some (.aload_n 0) := rfl
theorem at180_217 : jm_at 180 217 = some (.getfield 229) := rfl
theorem at180_220 : jm_at 180 220 = some (.iaload) := rfl
theorem at180_221 : jm_at 180 221 = some (.invokevirtual 235) := rfl
theorem u180_202 {S : Option (Nat × (Nat → Int32))} {H : jm_H} {Q : Option Value → jm_H → Prop} {r0 : Nat} {x1 x2 : Int32} (h0 : jm_tg H r0 = 13) (h1 : ¬ jm_R H r0 34 = 0) (h2 : ¬ ((jm_I H r0 36) < 0 ∨ jm_ln H (jm_R H r0 34) ≤ Int32.toNatClampNeg (jm_I H r0 36))) (h3 : ¬ (jm_R H r0 34) = 1) (h4 : jm_tg H (jm_R H r0 34) = 100) (h5 : ¬ jm_R H r0 35 = 0) (h6 : ¬ ((jm_I H r0 36) < 0 ∨ jm_ln H (jm_R H r0 35) ≤ Int32.toNatClampNeg (jm_I H r0 36))) (h7 : ¬ (jm_R H r0 35) = 1) (h8 : jm_tg H (jm_R H r0 35) = 100) : jm_w S 3 180 202 [.ref r0, .int x1, .int x2, .null] [] H Q = jm_c S 181 [.ref r0, .int (jm_I H (jm_R H r0 34) (Int32.toNatClampNeg (jm_I H r0 36))), .int (jm_I H (jm_R H r0 35) (Int32.toNatClampNeg (jm_I H r0 36)))] H (fun v G => jm_w S 3 180 224 [.ref r0, .int x1, .int x2, .null] (v.toList ++ []) G Q) := (js1 at180_202 rfl rfl rfl).trans ((js1 at180_203 rfl rfl rfl).trans ((jsgR (H := H) at180_204 rv180g_73 rfl h0 h1 rfl).trans ((js1 at180_207 rfl rfl rfl).trans ((jsgI (H := H) at180_208 rv180g_229 (Or.inl rfl) h0 rfl).trans ((jsial (H := H) at180_211 h3 h4 h2 rfl).trans ((js1 at180_212 rfl rfl rfl).trans ((jsgR (H := H) at180_213 rv180g_76 rfl h0 h5 rfl).trans ((js1 at180_216 rfl rfl rfl).trans ((jsgI (H := H) at180_217 rv180g_229 (Or.inl rfl) h0 rfl).trans ((jsial (H := H) at180_220 h7 h8 h6 rfl).trans (jscall (H := H) (as := [.ref r0, .int (jm_I H (jm_R H r0 34) (Int32.toNatClampNeg (jm_I H r0 36))), .int (jm_I H (jm_R H r0 35) (Int32.toNatClampNeg (jm_I H r0 36)))]) (q := []) at180_221 rfl rv180i_235 (jscutV rfl rfl rfl (Nat.le_of_ble_eq_true rfl) rfl h0) rfl (Nat.le_of_ble_eq_true rfl) rfl rfl)))))))))))
theorem at180_224 : jm_at 180 224 = some (.goto 106) := rfl
theorem u180_224 {S : Option (Nat × (Nat → Int32))} {H : jm_H} {Q : Option Value → jm_H → Prop} {r0 : Nat} {x1 x2 : Int32} : jm_w S 3 180 224 [.ref r0, .int x1, .int x2, .null] [] H Q = jm_w S 3 180 330 [.ref r0, .int x1, .int x2, .null] [] H Q := js2 at180_224 rfl rfl
theorem at180_227 : jm_at 180 227 = some (.iload_n 2) := rfl
theorem at180_228 : jm_at 180 228 = some (.ifCond .ne 29) := rfl
theorem u180_227 {S : Option (Nat × (Nat → Int32))} {H : jm_H} {Q : Option Value → jm_H → Prop} {r0 : Nat} {x1 x2 : Int32} : jm_w S 3 180 227 [.ref r0, .int x1, .int x2, .null] [] H Q = if ¬ x2 = 0 then jm_w S 3 180 257 [.ref r0, .int x1, .int x2, .null] [] H Q else jm_w S 3 180 231 [.ref r0, .int x1, .int x2, .null] [] H Q := (js1 at180_227 rfl rfl rfl).trans (jsif (P := ¬ x2 = 0) at180_228 rfl rfl)
theorem at180_231 : jm_at 180 231 = some (.aload_n 0) := rfl
theorem at180_232 : jm_at 180 232 = some (.getfield 20) := rfl
theorem at180_235 : jm_at 180 235 = some (.iload_n 1) := rfl
theorem at180_236 : jm_at 180 236 = some (.iconst 1) := rfl
theorem at180_237 : jm_at 180 237 = some (.isub) := rfl
theorem at180_238 : jm_at 180 238 = some (.iaload) := rfl
theorem at180_239 : jm_at 180 239 = some (.bipush 9) := rfl
theorem at180_241 : jm_at 180 241 = some (.if_icmp .eq 16) := rfl
theorem u180_231 {S : Option (Nat × (Nat → Int32))} {H : jm_H} {Q : Option Value → jm_H → Prop} {r0 : Nat} {x1 x2 : Int32} (h0 : jm_tg H r0 = 13) (h1 : ¬ jm_R H r0 5 = 0) (h2 : ¬ ((x1 - (1 : Int32)) < 0 ∨ jm_ln H (jm_R H r0 5) ≤ Int32.toNatClampNeg (x1 - (1 : Int32)))) (h3 : ¬ (jm_R H r0 5) = 1) (h4 : jm_tg H (jm_R H r0 5) = 100) : jm_w S 3 180 231 [.ref r0, .int x1, .int x2, .null] [] H Q = if (jm_I H (jm_R H r0 5) (Int32.toNatClampNeg (x1 - (1 : Int32)))) = (9 : Int32) then jm_w S 3 180 257 [.ref r0, .int x1, .int x2, .null] [] H Q else jm_w S 3 180 244 [.ref r0, .int x1, .int x2, .null] [] H Q := (js1 at180_231 rfl rfl rfl).trans ((jsgR (H := H) at180_232 rv180g_20 rfl h0 h1 rfl).trans ((js1 at180_235 rfl rfl rfl).trans ((jsci at180_236 rfl rfl).trans ((js0 at180_237 rfl rfl rfl).trans ((jsial (H := H) at180_238 h3 h4 h2 rfl).trans ((jscb at180_239 rfl rfl).trans (jsif (P := (jm_I H (jm_R H r0 5) (Int32.toNatClampNeg (x1 - (1 : Int32)))) = (9 : Int32)) at180_241 rfl rfl)))))))
theorem at180_244 : jm_at 180 244 = some (.aload_n 0) := rfl
theorem at180_245 : jm_at 180 245 = some (.getfield 20) := rfl
theorem at180_248 : jm_at 180 248 = some (.iload_n 1) := rfl
theorem at180_249 : jm_at 180 249 = some (.iconst 1) := rfl
theorem at180_250 : jm_at 180 250 = some (.isub) := rfl
theorem at180_251 : jm_at 180 251 = some (.iaload) := rfl
theorem at180_252 : jm_at 180 252 = some (.bipush 11) := rfl
theorem at180_254 : jm_at 180 254 = some (.if_icmp .ne 7) := rfl
theorem u180_244 {S : Option (Nat × (Nat → Int32))} {H : jm_H} {Q : Option Value → jm_H → Prop} {r0 : Nat} {x1 x2 : Int32} (h0 : jm_tg H r0 = 13) (h1 : ¬ jm_R H r0 5 = 0) (h2 : ¬ ((x1 - (1 : Int32)) < 0 ∨ jm_ln H (jm_R H r0 5) ≤ Int32.toNatClampNeg (x1 - (1 : Int32)))) (h3 : ¬ (jm_R H r0 5) = 1) (h4 : jm_tg H (jm_R H r0 5) = 100) : jm_w S 3 180 244 [.ref r0, .int x1, .int x2, .null] [] H Q = if ¬ (jm_I H (jm_R H r0 5) (Int32.toNatClampNeg (x1 - (1 : Int32)))) = (11 : Int32) then jm_w S 3 180 261 [.ref r0, .int x1, .int x2, .null] [] H Q else jm_w S 3 180 257 [.ref r0, .int x1, .int x2, .null] [] H Q := (js1 at180_244 rfl rfl rfl).trans ((jsgR (H := H) at180_245 rv180g_20 rfl h0 h1 rfl).trans ((js1 at180_248 rfl rfl rfl).trans ((jsci at180_249 rfl rfl).trans ((js0 at180_250 rfl rfl rfl).trans ((jsial (H := H) at180_251 h3 h4 h2 rfl).trans ((jscb at180_252 rfl rfl).trans (jsif (P := ¬ (jm_I H (jm_R H r0 5) (Int32.toNatClampNeg (x1 - (1 : Int32)))) = (11 : Int32)) at180_254 rfl rfl)))))))
theorem at180_257 : jm_at 180 257 = some (.iconst 1) := rfl
theorem at180_258 : jm_at 180 258 = some (.goto 4) := rfl
theorem u180_257 {S : Option (Nat × (Nat → Int32))} {H : jm_H} {Q : Option Value → jm_H → Prop} {r0 : Nat} {x1 x2 : Int32} : jm_w S 3 180 257 [.ref r0, .int x1, .int x2, .null] [] H Q = jm_w S 3 180 262 [.ref r0, .int x1, .int x2, .null] [.int (1 : Int32)] H Q := (jsci at180_257 rfl rfl).trans (js2 at180_258 rfl rfl)
theorem at180_261 : jm_at 180 261 = some (.iconst 0) := rfl
theorem u180_261 {S : Option (Nat × (Nat → Int32))} {H : jm_H} {Q : Option Value → jm_H → Prop} {r0 : Nat} {x1 x2 : Int32} : jm_w S 3 180 261 [.ref r0, .int x1, .int x2, .null] [] H Q = jm_w S 3 180 262 [.ref r0, .int x1, .int x2, .null] [.int (0 : Int32)] H Q := jsci at180_261 rfl rfl
theorem at180_262 : jm_at 180 262 = some (.istore_n 3) := rfl
theorem at180_263 : jm_at 180 263 = some (.iload_n 3) := rfl
theorem at180_264 : jm_at 180 264 = some (.ifCond .ne 8) := rfl
theorem u180_262 {S : Option (Nat × (Nat → Int32))} {H : jm_H} {Q : Option Value → jm_H → Prop} {r0 : Nat} {x1 x2 p0 : Int32} : jm_w S 3 180 262 [.ref r0, .int x1, .int x2, .null] [.int p0] H Q = if ¬ p0 = 0 then jm_w S 3 180 272 [.ref r0, .int x1, .int x2, .int p0] [] H Q else jm_w S 3 180 267 [.ref r0, .int x1, .int x2, .int p0] [] H Q := (js1 at180_262 rfl rfl rfl).trans ((js1 at180_263 rfl rfl rfl).trans (jsif (P := ¬ p0 = 0) at180_264 rfl rfl))
theorem at180_267 : jm_at 180 267 = some (.aload_n 0) := rfl
theorem at180_268 : jm_at 180 268 = some (.iconst 1) := rfl
theorem at180_269 : jm_at 180 269 = some (.invokevirtual 246) := rfl
theorem u180_267 {S : Option (Nat × (Nat → Int32))} {H : jm_H} {Q : Option Value → jm_H → Prop} {r0 : Nat} {x1 x2 x3 : Int32} (h0 : jm_tg H r0 = 13) : jm_w S 3 180 267 [.ref r0, .int x1, .int x2, .int x3] [] H Q = jm_c S 183 [.ref r0, .int (1 : Int32)] H (fun v G => jm_w S 3 180 272 [.ref r0, .int x1, .int x2, .int x3] (v.toList ++ []) G Q) := (js1 at180_267 rfl rfl rfl).trans ((jsci at180_268 rfl rfl).trans (jscall (H := H) (as := [.ref r0, .int (1 : Int32)]) (q := []) at180_269 rfl rv180i_246 (jscutV rfl rfl rfl (Nat.le_of_ble_eq_true rfl) rfl h0) rfl (Nat.le_of_ble_eq_true rfl) rfl rfl))
theorem at180_272 : jm_at 180 272 = some (.aload_n 0) := rfl
theorem at180_273 : jm_at 180 273 = some (.iload_n 3) := rfl
theorem at180_274 : jm_at 180 274 = some (.ifCond .eq 7) := rfl
theorem u180_272 {S : Option (Nat × (Nat → Int32))} {H : jm_H} {Q : Option Value → jm_H → Prop} {r0 : Nat} {x1 x2 x3 : Int32} : jm_w S 3 180 272 [.ref r0, .int x1, .int x2, .int x3] [] H Q = if x3 = 0 then jm_w S 3 180 281 [.ref r0, .int x1, .int x2, .int x3] [.ref r0] H Q else jm_w S 3 180 277 [.ref r0, .int x1, .int x2, .int x3] [.ref r0] H Q := (js1 at180_272 rfl rfl rfl).trans ((js1 at180_273 rfl rfl rfl).trans (jsif (P := x3 = 0) at180_274 rfl rfl))
theorem at180_277 : jm_at 180 277 = some (.iconst 2) := rfl
theorem at180_278 : jm_at 180 278 = some (.goto 4) := rfl
theorem u180_277 {S : Option (Nat × (Nat → Int32))} {H : jm_H} {Q : Option Value → jm_H → Prop} {r0 o0 : Nat} {x1 x2 x3 : Int32} : jm_w S 3 180 277 [.ref r0, .int x1, .int x2, .int x3] [.ref o0] H Q = jm_w S 3 180 282 [.ref r0, .int x1, .int x2, .int x3] [.int (2 : Int32), .ref o0] H Q := (jsci at180_277 rfl rfl).trans (js2 at180_278 rfl rfl)
theorem at180_281 : jm_at 180 281 = some (.iconst 4) := rfl
theorem u180_281 {S : Option (Nat × (Nat → Int32))} {H : jm_H} {Q : Option Value → jm_H → Prop} {r0 o0 : Nat} {x1 x2 x3 : Int32} : jm_w S 3 180 281 [.ref r0, .int x1, .int x2, .int x3] [.ref o0] H Q = jm_w S 3 180 282 [.ref r0, .int x1, .int x2, .int x3] [.int (4 : Int32), .ref o0] H Q := jsci at180_281 rfl rfl
theorem at180_282 : jm_at 180 282 = some (.invokevirtual 249) := rfl
theorem u180_282 {S : Option (Nat × (Nat → Int32))} {H : jm_H} {Q : Option Value → jm_H → Prop} {r0 o0 : Nat} {x1 x2 x3 p1 : Int32} (h0 : jm_tg H o0 = 13) : jm_w S 3 180 282 [.ref r0, .int x1, .int x2, .int x3] [.int p1, .ref o0] H Q = jm_c S 182 [.ref o0, .int p1] H (fun v G => jm_w S 3 180 285 [.ref r0, .int x1, .int x2, .int x3] (v.toList ++ []) G Q) := jscall (H := H) (as := [.ref o0, .int p1]) (q := []) at180_282 rfl rv180i_249 (jscutV rfl rfl rfl (Nat.le_of_ble_eq_true rfl) rfl h0) rfl (Nat.le_of_ble_eq_true rfl) rfl rfl
theorem at180_285 : jm_at 180 285 = some (.goto 45) := rfl
theorem u180_285 {S : Option (Nat × (Nat → Int32))} {H : jm_H} {Q : Option Value → jm_H → Prop} {r0 : Nat} {x1 x2 x3 : Int32} : jm_w S 3 180 285 [.ref r0, .int x1, .int x2, .int x3] [] H Q = jm_w S 3 180 330 [.ref r0, .int x1, .int x2, .int x3] [] H Q := js2 at180_285 rfl rfl
theorem at180_288 : jm_at 180 288 = some (.aload_n 0) := rfl
theorem at180_289 : jm_at 180 289 = some (.iconst 1) := rfl
theorem at180_290 : jm_at 180 290 = some (.invokevirtual 246) := rfl
theorem u180_288 {S : Option (Nat × (Nat → Int32))} {H : jm_H} {Q : Option Value → jm_H → Prop} {r0 : Nat} {x1 x2 : Int32} (h0 : jm_tg H r0 = 13) : jm_w S 3 180 288 [.ref r0, .int x1, .int x2, .null] [] H Q = jm_c S 183 [.ref r0, .int (1 : Int32)] H (fun v G => jm_w S 3 180 293 [.ref r0, .int x1, .int x2, .null] (v.toList ++ []) G Q) := (js1 at180_288 rfl rfl rfl).trans ((jsci at180_289 rfl rfl).trans (jscall (H := H) (as := [.ref r0, .int (1 : Int32)]) (q := []) at180_290 rfl rv180i_246 (jscutV rfl rfl rfl (Nat.le_of_ble_eq_true rfl) rfl h0) rfl (Nat.le_of_ble_eq_true rfl) rfl rfl))
theorem at180_293 : jm_at 180 293 = some (.aload_n 0) := rfl
theorem at180_294 : jm_at 180 294 = some (.iconst 3) := rfl
theorem at180_295 : jm_at 180 295 = some (.invokevirtual 249) := rfl
theorem u180_293 {S : Option (Nat × (Nat → Int32))} {H : jm_H} {Q : Option Value → jm_H → Prop} {r0 : Nat} {x1 x2 : Int32} (h0 : jm_tg H r0 = 13) : jm_w S 3 180 293 [.ref r0, .int x1, .int x2, .null] [] H Q = jm_c S 182 [.ref r0, .int (3 : Int32)] H (fun v G => jm_w S 3 180 298 [.ref r0, .int x1, .int x2, .null] (v.toList ++ []) G Q) := (js1 at180_293 rfl rfl rfl).trans ((jsci at180_294 rfl rfl).trans (jscall (H := H) (as := [.ref r0, .int (3 : Int32)]) (q := []) at180_295 rfl rv180i_249 (jscutV rfl rfl rfl (Nat.le_of_ble_eq_true rfl) rfl h0) rfl (Nat.le_of_ble_eq_true rfl) rfl rfl))
theorem at180_298 : jm_at 180 298 = some (.goto 32) := rfl
theorem u180_298 {S : Option (Nat × (Nat → Int32))} {H : jm_H} {Q : Option Value → jm_H → Prop} {r0 : Nat} {x1 x2 : Int32} : jm_w S 3 180 298 [.ref r0, .int x1, .int x2, .null] [] H Q = jm_w S 3 180 330 [.ref r0, .int x1, .int x2, .null] [] H Q := js2 at180_298 rfl rfl
theorem at180_301 : jm_at 180 301 = some (.aload_n 0) := rfl
theorem at180_302 : jm_at 180 302 = some (.iconst 2) := rfl
theorem at180_303 : jm_at 180 303 = some (.invokevirtual 246) := rfl
theorem u180_301 {S : Option (Nat × (Nat → Int32))} {H : jm_H} {Q : Option Value → jm_H → Prop} {r0 : Nat} {x1 x2 : Int32} (h0 : jm_tg H r0 = 13) : jm_w S 3 180 301 [.ref r0, .int x1, .int x2, .null] [] H Q = jm_c S 183 [.ref r0, .int (2 : Int32)] H (fun v G => jm_w S 3 180 306 [.ref r0, .int x1, .int x2, .null] (v.toList ++ []) G Q) := (js1 at180_301 rfl rfl rfl).trans ((jsci at180_302 rfl rfl).trans (jscall (H := H) (as := [.ref r0, .int (2 : Int32)]) (q := []) at180_303 rfl rv180i_246 (jscutV rfl rfl rfl (Nat.le_of_ble_eq_true rfl) rfl h0) rfl (Nat.le_of_ble_eq_true rfl) rfl rfl))
theorem at180_306 : jm_at 180 306 = some (.aload_n 0) := rfl
theorem at180_307 : jm_at 180 307 = some (.aload_n 0) := rfl
theorem at180_308 : jm_at 180 308 = some (.getfield 20) := rfl
theorem at180_311 : jm_at 180 311 = some (.iload_n 1) := rfl
theorem at180_312 : jm_at 180 312 = some (.iaload) := rfl
theorem at180_313 : jm_at 180 313 = some (.bipush 7) := rfl
theorem at180_315 : jm_at 180 315 = some (.if_icmp .ne 7) := rfl
theorem u180_306 {S : Option (Nat × (Nat → Int32))} {H : jm_H} {Q : Option Value → jm_H → Prop} {r0 : Nat} {x1 x2 : Int32} (h0 : jm_tg H r0 = 13) (h1 : ¬ jm_R H r0 5 = 0) (h2 : ¬ (x1 < 0 ∨ jm_ln H (jm_R H r0 5) ≤ Int32.toNatClampNeg x1)) (h3 : ¬ (jm_R H r0 5) = 1) (h4 : jm_tg H (jm_R H r0 5) = 100) : jm_w S 3 180 306 [.ref r0, .int x1, .int x2, .null] [] H Q = if ¬ (jm_I H (jm_R H r0 5) (Int32.toNatClampNeg x1)) = (7 : Int32) then jm_w S 3 180 322 [.ref r0, .int x1, .int x2, .null] [.ref r0] H Q else jm_w S 3 180 318 [.ref r0, .int x1, .int x2, .null] [.ref r0] H Q := (js1 at180_306 rfl rfl rfl).trans ((js1 at180_307 rfl rfl rfl).trans ((jsgR (H := H) at180_308 rv180g_20 rfl h0 h1 rfl).trans ((js1 at180_311 rfl rfl rfl).trans ((jsial (H := H) at180_312 h3 h4 h2 rfl).trans ((jscb at180_313 rfl rfl).trans (jsif (P := ¬ (jm_I H (jm_R H r0 5) (Int32.toNatClampNeg x1)) = (7 : Int32)) at180_315 rfl rfl))))))
theorem at180_318 : jm_at 180 318 = some (.iconst 5) := rfl
theorem at180_319 : jm_at 180 319 = some (.goto 5) := rfl
theorem u180_318 {S : Option (Nat × (Nat → Int32))} {H : jm_H} {Q : Option Value → jm_H → Prop} {r0 o0 : Nat} {x1 x2 : Int32} : jm_w S 3 180 318 [.ref r0, .int x1, .int x2, .null] [.ref o0] H Q = jm_w S 3 180 324 [.ref r0, .int x1, .int x2, .null] [.int (5 : Int32), .ref o0] H Q := (jsci at180_318 rfl rfl).trans (js2 at180_319 rfl rfl)
theorem at180_322 : jm_at 180 322 = some (.bipush 6) := rfl
theorem u180_322 {S : Option (Nat × (Nat → Int32))} {H : jm_H} {Q : Option Value → jm_H → Prop} {r0 o0 : Nat} {x1 x2 : Int32} : jm_w S 3 180 322 [.ref r0, .int x1, .int x2, .null] [.ref o0] H Q = jm_w S 3 180 324 [.ref r0, .int x1, .int x2, .null] [.int (6 : Int32), .ref o0] H Q := jscb at180_322 rfl rfl
theorem at180_324 : jm_at 180 324 = some (.invokevirtual 249) := rfl
theorem u180_324 {S : Option (Nat × (Nat → Int32))} {H : jm_H} {Q : Option Value → jm_H → Prop} {r0 o0 : Nat} {x1 x2 p1 : Int32} (h0 : jm_tg H o0 = 13) : jm_w S 3 180 324 [.ref r0, .int x1, .int x2, .null] [.int p1, .ref o0] H Q = jm_c S 182 [.ref o0, .int p1] H (fun v G => jm_w S 3 180 327 [.ref r0, .int x1, .int x2, .null] (v.toList ++ []) G Q) := jscall (H := H) (as := [.ref o0, .int p1]) (q := []) at180_324 rfl rv180i_249 (jscutV rfl rfl rfl (Nat.le_of_ble_eq_true rfl) rfl h0) rfl (Nat.le_of_ble_eq_true rfl) rfl rfl
theorem at180_327 : jm_at 180 327 = some (.goto 3) := rfl
theorem u180_327 {S : Option (Nat × (Nat → Int32))} {H : jm_H} {Q : Option Value → jm_H → Prop} {r0 : Nat} {x1 x2 : Int32} : jm_w S 3 180 327 [.ref r0, .int x1, .int x2, .null] [] H Q = jm_w S 3 180 330 [.ref r0, .int x1, .int x2, .null] [] H Q := js2 at180_327 rfl rfl
theorem at180_330 : jm_at 180 330 = some (.return_) := rfl
theorem u180_330 {S : Option (Nat × (Nat → Int32))} {H : jm_H} {Q : Option Value → jm_H → Prop} {r0 : Nat} {x1 x2 : Int32} {w3 : Value} : jm_w S 3 180 330 [.ref r0, .int x1, .int x2, w3] [] H Q = Q none H := jsret_v at180_330 rfl
theorem en180 {S : Option (Nat × (Nat → Int32))} {H : jm_H} {Q : Option Value → jm_H → Prop} {r0 : Nat} {x1 x2 : Int32} : jm_c S 180 [.ref r0, .int x1, .int x2] H Q = jm_w S 3 180 0 [.ref r0, .int x1, .int x2, .null] [] H Q := rfl
theorem at181_0 : jm_at 181 0 = some (.aload_n 0) := rfl
theorem at181_1 : jm_at 181 1 = some (.getfield 58) := rfl
theorem rv181g_58 : jm_rv 181 (.getfield 58) = (0, 12, 26, 0) := rfl
theorem at181_4 : jm_at 181 4 = some (.aload_n 0) := rfl
theorem at181_5 : jm_at 181 5 = some (.getfield 191) := rfl
theorem rv181g_191 : jm_rv 181 (.getfield 191) = (0, 12, 29, 0) := rfl
theorem at181_8 : jm_at 181 8 = some (.iload_n 1) := rfl
theorem at181_9 : jm_at 181 9 = some (.iastore) := rfl
theorem at181_10 : jm_at 181 10 = some (.aload_n 0) := rfl
theorem at181_11 : jm_at 181 11 = some (.getfield 61) := rfl
theorem rv181g_61 : jm_rv 181 (.getfield 61) = (0, 12, 27, 0) := rfl
theorem at181_14 : jm_at 181 14 = some (.aload_n 0) := rfl
theorem at181_15 : jm_at 181 15 = some (.getfield 191) := rfl
theorem at181_18 : jm_at 181 18 = some (.iload_n 2) := rfl
theorem at181_19 : jm_at 181 19 = some (.iastore) := rfl
theorem at181_20 : jm_at 181 20 = some (.aload_n 0) := rfl
theorem at181_21 : jm_at 181 21 = some (.dup) := rfl
theorem at181_22 : jm_at 181 22 = some (.getfield 191) := rfl
theorem at181_25 : jm_at 181 25 = some (.iconst 1) := rfl
theorem at181_26 : jm_at 181 26 = some (.iadd) := rfl
theorem at181_27 : jm_at 181 27 = some (.putfield 191) := rfl
theorem rv181p_191 : jm_rv 181 (.putfield 191) = (0, 12, 29, 0) := rfl
theorem at181_30 : jm_at 181 30 = some (.return_) := rfl
theorem u181_0 {S : Option (Nat × (Nat → Int32))} {H : jm_H} {Q : Option Value → jm_H → Prop} {r0 : Nat} {x1 x2 : Int32} (h0 : jm_tg H r0 = 13) (h1 : ¬ jm_R H r0 26 = 0) (h2 : ¬ ((jm_I H r0 29) < 0 ∨ jm_ln H (jm_R H r0 26) ≤ Int32.toNatClampNeg (jm_I H r0 29))) (h3 : jm_tg H (jm_R H r0 26) = 100) (h4 : ¬ jm_R H r0 27 = 0) (h5 : ¬ ((jm_I (jm_pI H (jm_R H r0 26) (Int32.toNatClampNeg (jm_I H r0 29)) x1) r0 29) < 0 ∨ jm_ln H (jm_R H r0 27) ≤ Int32.toNatClampNeg (jm_I (jm_pI H (jm_R H r0 26) (Int32.toNatClampNeg (jm_I H r0 29)) x1) r0 29))) (h6 : jm_tg H (jm_R H r0 27) = 100) : jm_w S 1 181 0 [.ref r0, .int x1, .int x2] [] H Q = Q none (jm_pI (jm_pI (jm_pI H (jm_R H r0 26) (Int32.toNatClampNeg (jm_I H r0 29)) x1) (jm_R H r0 27) (Int32.toNatClampNeg (jm_I (jm_pI H (jm_R H r0 26) (Int32.toNatClampNeg (jm_I H r0 29)) x1) r0 29)) x2) r0 29 ((jm_I (jm_pI (jm_pI H (jm_R H r0 26) (Int32.toNatClampNeg (jm_I H r0 29)) x1) (jm_R H r0 27) (Int32.toNatClampNeg (jm_I (jm_pI H (jm_R H r0 26) (Int32.toNatClampNeg (jm_I H r0 29)) x1) r0 29)) x2) r0 29) + (1 : Int32))) := (js1 at181_0 rfl rfl rfl).trans ((jsgR (H := H) at181_1 rv181g_58 rfl h0 h1 rfl).trans ((js1 at181_4 rfl rfl rfl).trans ((jsgI (H := H) at181_5 rv181g_191 (Or.inl rfl) h0 rfl).trans ((js1 at181_8 rfl rfl rfl).trans ((jsias (H := H) at181_9 h3 h2 rfl).trans ((js1 at181_10 rfl rfl rfl).trans ((jsgR (H := (jm_pI H (jm_R H r0 26) (Int32.toNatClampNeg (jm_I H r0 29)) x1)) at181_11 rv181g_61 rfl h0 h4 rfl).trans ((js1 at181_14 rfl rfl rfl).trans ((jsgI (H := (jm_pI H (jm_R H r0 26) (Int32.toNatClampNeg (jm_I H r0 29)) x1)) at181_15 rv181g_191 (Or.inl rfl) h0 rfl).trans ((js1 at181_18 rfl rfl rfl).trans ((jsias (H := (jm_pI H (jm_R H r0 26) (Int32.toNatClampNeg (jm_I H r0 29)) x1)) at181_19 h6 h5 rfl).trans ((js1 at181_20 rfl rfl rfl).trans ((js0 at181_21 rfl rfl rfl).trans ((jsgI (H := (jm_pI (jm_pI H (jm_R H r0 26) (Int32.toNatClampNeg (jm_I H r0 29)) x1) (jm_R H r0 27) (Int32.toNatClampNeg (jm_I (jm_pI H (jm_R H r0 26) (Int32.toNatClampNeg (jm_I H r0 29)) x1) r0 29)) x2)) at181_22 rv181g_191 (Or.inl rfl) h0 rfl).trans ((jsci at181_25 rfl rfl).trans ((js0 at181_26 rfl rfl rfl).trans ((jspI (H := (jm_pI (jm_pI H (jm_R H r0 26) (Int32.toNatClampNeg (jm_I H r0 29)) x1) (jm_R H r0 27) (Int32.toNatClampNeg (jm_I (jm_pI H (jm_R H r0 26) (Int32.toNatClampNeg (jm_I H r0 29)) x1) r0 29)) x2)) at181_27 rv181p_191 rfl h0 rfl).trans (jsret_v at181_30 rfl))))))))))))))))))
theorem en181 {S : Option (Nat × (Nat → Int32))} {H : jm_H} {Q : Option Value → jm_H → Prop} {r0 : Nat} {x1 x2 : Int32} : jm_c S 181 [.ref r0, .int x1, .int x2] H Q = jm_w S 1 181 0 [.ref r0, .int x1, .int x2] [] H Q := rfl
theorem at182_0 : jm_at 182 0 = some (.aload_n 0) := rfl
theorem at182_1 : jm_at 182 1 = some (.getfield 73) := rfl
theorem rv182g_73 : jm_rv 182 (.getfield 73) = (0, 12, 34, 0) := rfl
theorem at182_4 : jm_at 182 4 = some (.aload_n 0) := rfl
theorem at182_5 : jm_at 182 5 = some (.getfield 229) := rfl
theorem rv182g_229 : jm_rv 182 (.getfield 229) = (0, 12, 36, 0) := rfl
theorem at182_8 : jm_at 182 8 = some (.iload_n 1) := rfl
theorem at182_9 : jm_at 182 9 = some (.iastore) := rfl
theorem at182_10 : jm_at 182 10 = some (.aload_n 0) := rfl
theorem at182_11 : jm_at 182 11 = some (.getfield 76) := rfl
theorem rv182g_76 : jm_rv 182 (.getfield 76) = (0, 12, 35, 0) := rfl
theorem at182_14 : jm_at 182 14 = some (.aload_n 0) := rfl
theorem at182_15 : jm_at 182 15 = some (.getfield 229) := rfl
theorem at182_18 : jm_at 182 18 = some (.iconst 1) := rfl
theorem at182_19 : jm_at 182 19 = some (.iastore) := rfl
theorem at182_20 : jm_at 182 20 = some (.aload_n 0) := rfl
theorem at182_21 : jm_at 182 21 = some (.dup) := rfl
theorem at182_22 : jm_at 182 22 = some (.getfield 229) := rfl
theorem at182_25 : jm_at 182 25 = some (.iconst 1) := rfl
theorem at182_26 : jm_at 182 26 = some (.iadd) := rfl
theorem at182_27 : jm_at 182 27 = some (.putfield 229) := rfl
theorem rv182p_229 : jm_rv 182 (.putfield 229) = (0, 12, 36, 0) := rfl
theorem at182_30 : jm_at 182 30 = some (.return_) := rfl
theorem u182_0 {S : Option (Nat × (Nat → Int32))} {H : jm_H} {Q : Option Value → jm_H → Prop} {r0 : Nat} {x1 : Int32} (h0 : jm_tg H r0 = 13) (h1 : ¬ jm_R H r0 34 = 0) (h2 : ¬ ((jm_I H r0 36) < 0 ∨ jm_ln H (jm_R H r0 34) ≤ Int32.toNatClampNeg (jm_I H r0 36))) (h3 : jm_tg H (jm_R H r0 34) = 100) (h4 : ¬ jm_R H r0 35 = 0) (h5 : ¬ ((jm_I (jm_pI H (jm_R H r0 34) (Int32.toNatClampNeg (jm_I H r0 36)) x1) r0 36) < 0 ∨ jm_ln H (jm_R H r0 35) ≤ Int32.toNatClampNeg (jm_I (jm_pI H (jm_R H r0 34) (Int32.toNatClampNeg (jm_I H r0 36)) x1) r0 36))) (h6 : jm_tg H (jm_R H r0 35) = 100) : jm_w S 1 182 0 [.ref r0, .int x1] [] H Q = Q none (jm_pI (jm_pI (jm_pI H (jm_R H r0 34) (Int32.toNatClampNeg (jm_I H r0 36)) x1) (jm_R H r0 35) (Int32.toNatClampNeg (jm_I (jm_pI H (jm_R H r0 34) (Int32.toNatClampNeg (jm_I H r0 36)) x1) r0 36)) (1 : Int32)) r0 36 ((jm_I (jm_pI (jm_pI H (jm_R H r0 34) (Int32.toNatClampNeg (jm_I H r0 36)) x1) (jm_R H r0 35) (Int32.toNatClampNeg (jm_I (jm_pI H (jm_R H r0 34) (Int32.toNatClampNeg (jm_I H r0 36)) x1) r0 36)) (1 : Int32)) r0 36) + (1 : Int32))) := (js1 at182_0 rfl rfl rfl).trans ((jsgR (H := H) at182_1 rv182g_73 rfl h0 h1 rfl).trans ((js1 at182_4 rfl rfl rfl).trans ((jsgI (H := H) at182_5 rv182g_229 (Or.inl rfl) h0 rfl).trans ((js1 at182_8 rfl rfl rfl).trans ((jsias (H := H) at182_9 h3 h2 rfl).trans ((js1 at182_10 rfl rfl rfl).trans ((jsgR (H := (jm_pI H (jm_R H r0 34) (Int32.toNatClampNeg (jm_I H r0 36)) x1)) at182_11 rv182g_76 rfl h0 h4 rfl).trans ((js1 at182_14 rfl rfl rfl).trans ((jsgI (H := (jm_pI H (jm_R H r0 34) (Int32.toNatClampNeg (jm_I H r0 36)) x1)) at182_15 rv182g_229 (Or.inl rfl) h0 rfl).trans ((jsci at182_18 rfl rfl).trans ((jsias (H := (jm_pI H (jm_R H r0 34) (Int32.toNatClampNeg (jm_I H r0 36)) x1)) at182_19 h6 h5 rfl).trans ((js1 at182_20 rfl rfl rfl).trans ((js0 at182_21 rfl rfl rfl).trans ((jsgI (H := (jm_pI (jm_pI H (jm_R H r0 34) (Int32.toNatClampNeg (jm_I H r0 36)) x1) (jm_R H r0 35) (Int32.toNatClampNeg (jm_I (jm_pI H (jm_R H r0 34) (Int32.toNatClampNeg (jm_I H r0 36)) x1) r0 36)) (1 : Int32))) at182_22 rv182g_229 (Or.inl rfl) h0 rfl).trans ((jsci at182_25 rfl rfl).trans ((js0 at182_26 rfl rfl rfl).trans ((jspI (H := (jm_pI (jm_pI H (jm_R H r0 34) (Int32.toNatClampNeg (jm_I H r0 36)) x1) (jm_R H r0 35) (Int32.toNatClampNeg (jm_I (jm_pI H (jm_R H r0 34) (Int32.toNatClampNeg (jm_I H r0 36)) x1) r0 36)) (1 : Int32))) at182_27 rv182p_229 rfl h0 rfl).trans (jsret_v at182_30 rfl))))))))))))))))))
theorem en182 {S : Option (Nat × (Nat → Int32))} {H : jm_H} {Q : Option Value → jm_H → Prop} {r0 : Nat} {x1 : Int32} : jm_c S 182 [.ref r0, .int x1] H Q = jm_w S 1 182 0 [.ref r0, .int x1] [] H Q := rfl
theorem at183_0 : jm_at 183 0 = some (.aload_n 0) := rfl
theorem at183_1 : jm_at 183 1 = some (.getfield 229) := rfl
theorem rv183g_229 : jm_rv 183 (.getfield 229) = (0, 12, 36, 0) := rfl
theorem at183_4 : jm_at 183 4 = some (.ifCond .le 48) := rfl
theorem u183_0 {S : Option (Nat × (Nat → Int32))} {H : jm_H} {Q : Option Value → jm_H → Prop} {r0 : Nat} {x1 : Int32} (h0 : jm_tg H r0 = 13) : jm_w S 2 183 0 [.ref r0, .int x1] [] H Q = if (jm_I H r0 36) ≤ 0 then jm_w S 2 183 52 [.ref r0, .int x1] [] H Q else jm_w S 2 183 7 [.ref r0, .int x1] [] H Q := (js1 at183_0 rfl rfl rfl).trans ((jsgI (H := H) at183_1 rv183g_229 (Or.inl rfl) h0 rfl).trans (jsif (P := (jm_I H r0 36) ≤ 0) at183_4 rfl rfl))
theorem at183_7 : jm_at 183 7 = some (.aload_n 0) := rfl
theorem at183_8 : jm_at 183 8 = some (.getfield 73) := rfl
theorem rv183g_73 : jm_rv 183 (.getfield 73) = (0, 12, 34, 0) := rfl
theorem at183_11 : jm_at 183 11 = some (.aload_n 0) := rfl
theorem at183_12 : jm_at 183 12 = some (.getfield 229) := rfl
theorem at183_15 : jm_at 183 15 = some (.iconst 1) := rfl
theorem at183_16 : jm_at 183 16 = some (.isub) := rfl
theorem at183_17 : jm_at 183 17 = some (.iaload) := rfl
theorem at183_18 : jm_at 183 18 = some (.invokestatic 232) := rfl
theorem rv183i_232 : jm_rv 183 (.invokestatic 232) = (1, 184, 0, 0) := rfl
theorem u183_7 {S : Option (Nat × (Nat → Int32))} {H : jm_H} {Q : Option Value → jm_H → Prop} {r0 : Nat} {x1 : Int32} (h0 : jm_tg H r0 = 13) (h1 : ¬ jm_R H r0 34 = 0) (h2 : ¬ (((jm_I H r0 36) - (1 : Int32)) < 0 ∨ jm_ln H (jm_R H r0 34) ≤ Int32.toNatClampNeg ((jm_I H r0 36) - (1 : Int32)))) (h3 : ¬ (jm_R H r0 34) = 1) (h4 : jm_tg H (jm_R H r0 34) = 100) : jm_w S 2 183 7 [.ref r0, .int x1] [] H Q = jm_c S 184 [.int (jm_I H (jm_R H r0 34) (Int32.toNatClampNeg ((jm_I H r0 36) - (1 : Int32))))] H (fun v G => jm_w S 2 183 21 [.ref r0, .int x1] (v.toList ++ []) G Q) := (js1 at183_7 rfl rfl rfl).trans ((jsgR (H := H) at183_8 rv183g_73 rfl h0 h1 rfl).trans ((js1 at183_11 rfl rfl rfl).trans ((jsgI (H := H) at183_12 rv183g_229 (Or.inl rfl) h0 rfl).trans ((jsci at183_15 rfl rfl).trans ((js0 at183_16 rfl rfl rfl).trans ((jsial (H := H) at183_17 h3 h4 h2 rfl).trans (jscall (H := H) (as := [.int (jm_I H (jm_R H r0 34) (Int32.toNatClampNeg ((jm_I H r0 36) - (1 : Int32))))]) (q := []) at183_18 rfl rv183i_232 (jscut rfl rfl rfl (Nat.le_of_ble_eq_true rfl)) rfl (Nat.le_of_ble_eq_true rfl) rfl rfl)))))))
theorem at183_21 : jm_at 183 21 = some (.iload_n 1) := rfl
theorem at183_22 : jm_at 183 22 = some (.if_icmp .lt 30) := rfl
theorem u183_21 {S : Option (Nat × (Nat → Int32))} {H : jm_H} {Q : Option Value → jm_H → Prop} {r0 : Nat} {x1 p0 : Int32} : jm_w S 2 183 21 [.ref r0, .int x1] [.int p0] H Q = if p0 < x1 then jm_w S 2 183 52 [.ref r0, .int x1] [] H Q else jm_w S 2 183 25 [.ref r0, .int x1] [] H Q := (js1 at183_21 rfl rfl rfl).trans (jsif (P := p0 < x1) at183_22 rfl rfl)
theorem at183_25 : jm_at 183 25 = some (.aload_n 0) := rfl
theorem at183_26 : jm_at 183 26 = some (.dup) := rfl
theorem at183_27 : jm_at 183 27 = some (.getfield 229) := rfl
theorem at183_30 : jm_at 183 30 = some (.iconst 1) := rfl
theorem at183_31 : jm_at 183 31 = some (.isub) := rfl
theorem at183_32 : jm_at 183 32 = some (.putfield 229) := rfl
theorem rv183p_229 : jm_rv 183 (.putfield 229) = (0, 12, 36, 0) := rfl
theorem at183_35 : jm_at 183 35 = some (.aload_n 0) := rfl
theorem at183_36 : jm_at 183 36 = some (.aload_n 0) := rfl
theorem at183_37 : jm_at 183 37 = some (.getfield 73) := rfl
theorem at183_40 : jm_at 183 40 = some (.aload_n 0) := rfl
theorem at183_41 : jm_at 183 41 = some (.getfield 229) := rfl
theorem at183_44 : jm_at 183 44 = some (.iaload) := rfl
theorem at183_45 : jm_at 183 45 = some (.iconst 0) := rfl
theorem at183_46 : jm_at 183 46 = some (.invokevirtual 235) := rfl
theorem rv183i_235 : jm_rv 183 (.invokevirtual 235) = (2, 181, 0, 0) := rfl
theorem u183_25 {S : Option (Nat × (Nat → Int32))} {H : jm_H} {Q : Option Value → jm_H → Prop} {r0 : Nat} {x1 : Int32} (h0 : jm_tg H r0 = 13) (h1 : ¬ jm_R H r0 34 = 0) (h2 : ¬ ((jm_I (jm_pI H r0 36 ((jm_I H r0 36) - (1 : Int32))) r0 36) < 0 ∨ jm_ln H (jm_R H r0 34) ≤ Int32.toNatClampNeg (jm_I (jm_pI H r0 36 ((jm_I H r0 36) - (1 : Int32))) r0 36))) (h3 : ¬ (jm_R H r0 34) = 1) (h4 : jm_tg H (jm_R H r0 34) = 100) : jm_w S 2 183 25 [.ref r0, .int x1] [] H Q = jm_c S 181 [.ref r0, .int (jm_I (jm_pI H r0 36 ((jm_I H r0 36) - (1 : Int32))) (jm_R H r0 34) (Int32.toNatClampNeg (jm_I (jm_pI H r0 36 ((jm_I H r0 36) - (1 : Int32))) r0 36))), .int (0 : Int32)] (jm_pI H r0 36 ((jm_I H r0 36) - (1 : Int32))) (fun v G => jm_w S 2 183 49 [.ref r0, .int x1] (v.toList ++ []) G Q) := (js1 at183_25 rfl rfl rfl).trans ((js0 at183_26 rfl rfl rfl).trans ((jsgI (H := H) at183_27 rv183g_229 (Or.inl rfl) h0 rfl).trans ((jsci at183_30 rfl rfl).trans ((js0 at183_31 rfl rfl rfl).trans ((jspI (H := H) at183_32 rv183p_229 rfl h0 rfl).trans ((js1 at183_35 rfl rfl rfl).trans ((js1 at183_36 rfl rfl rfl).trans ((jsgR (H := (jm_pI H r0 36 ((jm_I H r0 36) - (1 : Int32)))) at183_37 rv183g_73 rfl h0 h1 rfl).trans ((js1 at183_40 rfl rfl rfl).trans ((jsgI (H := (jm_pI H r0 36 ((jm_I H r0 36) - (1 : Int32)))) at183_41 rv183g_229 (Or.inl rfl) h0 rfl).trans ((jsial (H := (jm_pI H r0 36 ((jm_I H r0 36) - (1 : Int32)))) at183_44 h3 h4 h2 rfl).trans ((jsci at183_45 rfl rfl).trans (jscall (H := (jm_pI H r0 36 ((jm_I H r0 36) - (1 : Int32)))) (as := [.ref r0, .int (jm_I (jm_pI H r0 36 ((jm_I H r0 36) - (1 : Int32))) (jm_R H r0 34) (Int32.toNatClampNeg (jm_I (jm_pI H r0 36 ((jm_I H r0 36) - (1 : Int32))) r0 36))), .int (0 : Int32)]) (q := []) at183_46 rfl rv183i_235 (jscutV rfl rfl rfl (Nat.le_of_ble_eq_true rfl) rfl h0) rfl (Nat.le_of_ble_eq_true rfl) rfl rfl)))))))))))))
theorem at183_49 : jm_at 183 49 = some (.goto (-49)) := rfl
theorem u183_49 {S : Option (Nat × (Nat → Int32))} {H : jm_H} {Q : Option Value → jm_H → Prop} {r0 : Nat} {x1 : Int32} : jm_w S 2 183 49 [.ref r0, .int x1] [] H Q = jm_w S 2 183 0 [.ref r0, .int x1] [] H Q := js2 at183_49 rfl rfl
theorem at183_52 : jm_at 183 52 = some (.return_) := rfl
theorem u183_52 {S : Option (Nat × (Nat → Int32))} {H : jm_H} {Q : Option Value → jm_H → Prop} {r0 : Nat} {x1 : Int32} : jm_w S 2 183 52 [.ref r0, .int x1] [] H Q = Q none H := jsret_v at183_52 rfl
theorem en183 {S : Option (Nat × (Nat → Int32))} {H : jm_H} {Q : Option Value → jm_H → Prop} {r0 : Nat} {x1 : Int32} : jm_c S 183 [.ref r0, .int x1] H Q = jm_w S 2 183 0 [.ref r0, .int x1] [] H Q := rfl
theorem at184_0 : jm_at 184 0 = some (.iload_n 0) := rfl
theorem at184_1 : jm_at 184 1 = some (.iconst 5) := rfl
theorem at184_2 : jm_at 184 2 = some (.if_icmp .eq 9) := rfl
theorem u184_0 {S : Option (Nat × (Nat → Int32))} {H : jm_H} {Q : Option Value → jm_H → Prop} {x0 : Int32} : jm_w S 1 184 0 [.int x0] [] H Q = if x0 = (5 : Int32) then jm_w S 1 184 11 [.int x0] [] H Q else jm_w S 1 184 5 [.int x0] [] H Q := (js1 at184_0 rfl rfl rfl).trans ((jsci at184_1 rfl rfl).trans (jsif (P := x0 = (5 : Int32)) at184_2 rfl rfl))
theorem at184_5 : jm_at 184 5 = some (.iload_n 0) := rfl
theorem at184_6 : jm_at 184 6 = some (.bipush 6) := rfl
theorem at184_8 : jm_at 184 8 = some (.if_icmp .ne 7) := rfl
theorem u184_5 {S : Option (Nat × (Nat → Int32))} {H : jm_H} {Q : Option Value → jm_H → Prop} {x0 : Int32} : jm_w S 1 184 5 [.int x0] [] H Q = if ¬ x0 = (6 : Int32) then jm_w S 1 184 15 [.int x0] [] H Q else jm_w S 1 184 11 [.int x0] [] H Q := (js1 at184_5 rfl rfl rfl).trans ((jscb at184_6 rfl rfl).trans (jsif (P := ¬ x0 = (6 : Int32)) at184_8 rfl rfl))
theorem at184_11 : jm_at 184 11 = some (.iconst 2) := rfl
theorem at184_12 : jm_at 184 12 = some (.goto 23) := rfl
theorem u184_11 {S : Option (Nat × (Nat → Int32))} {H : jm_H} {Q : Option Value → jm_H → Prop} {x0 : Int32} : jm_w S 1 184 11 [.int x0] [] H Q = jm_w S 1 184 35 [.int x0] [.int (2 : Int32)] H Q := (jsci at184_11 rfl rfl).trans (js2 at184_12 rfl rfl)
theorem at184_15 : jm_at 184 15 = some (.iload_n 0) := rfl
theorem at184_16 : jm_at 184 16 = some (.iconst 3) := rfl
theorem at184_17 : jm_at 184 17 = some (.if_icmp .eq 13) := rfl
theorem u184_15 {S : Option (Nat × (Nat → Int32))} {H : jm_H} {Q : Option Value → jm_H → Prop} {x0 : Int32} : jm_w S 1 184 15 [.int x0] [] H Q = if x0 = (3 : Int32) then jm_w S 1 184 30 [.int x0] [] H Q else jm_w S 1 184 20 [.int x0] [] H Q := (js1 at184_15 rfl rfl rfl).trans ((jsci at184_16 rfl rfl).trans (jsif (P := x0 = (3 : Int32)) at184_17 rfl rfl))
theorem at184_20 : jm_at 184 20 = some (.iload_n 0) := rfl
theorem at184_21 : jm_at 184 21 = some (.iconst 4) := rfl
theorem at184_22 : jm_at 184 22 = some (.if_icmp .eq 8) := rfl
theorem u184_20 {S : Option (Nat × (Nat → Int32))} {H : jm_H} {Q : Option Value → jm_H → Prop} {x0 : Int32} : jm_w S 1 184 20 [.int x0] [] H Q = if x0 = (4 : Int32) then jm_w S 1 184 30 [.int x0] [] H Q else jm_w S 1 184 25 [.int x0] [] H Q := (js1 at184_20 rfl rfl rfl).trans ((jsci at184_21 rfl rfl).trans (jsif (P := x0 = (4 : Int32)) at184_22 rfl rfl))
theorem at184_25 : jm_at 184 25 = some (.iload_n 0) := rfl
theorem at184_26 : jm_at 184 26 = some (.iconst 2) := rfl
theorem at184_27 : jm_at 184 27 = some (.if_icmp .ne 7) := rfl
theorem u184_25 {S : Option (Nat × (Nat → Int32))} {H : jm_H} {Q : Option Value → jm_H → Prop} {x0 : Int32} : jm_w S 1 184 25 [.int x0] [] H Q = if ¬ x0 = (2 : Int32) then jm_w S 1 184 34 [.int x0] [] H Q else jm_w S 1 184 30 [.int x0] [] H Q := (js1 at184_25 rfl rfl rfl).trans ((jsci at184_26 rfl rfl).trans (jsif (P := ¬ x0 = (2 : Int32)) at184_27 rfl rfl))
theorem at184_30 : jm_at 184 30 = some (.iconst 1) := rfl
theorem at184_31 : jm_at 184 31 = some (.goto 4) := rfl
theorem u184_30 {S : Option (Nat × (Nat → Int32))} {H : jm_H} {Q : Option Value → jm_H → Prop} {x0 : Int32} : jm_w S 1 184 30 [.int x0] [] H Q = jm_w S 1 184 35 [.int x0] [.int (1 : Int32)] H Q := (jsci at184_30 rfl rfl).trans (js2 at184_31 rfl rfl)
theorem at184_34 : jm_at 184 34 = some (.iconst 0) := rfl
theorem u184_34 {S : Option (Nat × (Nat → Int32))} {H : jm_H} {Q : Option Value → jm_H → Prop} {x0 : Int32} : jm_w S 1 184 34 [.int x0] [] H Q = jm_w S 1 184 35 [.int x0] [.int (0 : Int32)] H Q := jsci at184_34 rfl rfl
theorem at184_35 : jm_at 184 35 = some (.ireturn) := rfl
theorem u184_35 {S : Option (Nat × (Nat → Int32))} {H : jm_H} {Q : Option Value → jm_H → Prop} {x0 p0 : Int32} : jm_w S 1 184 35 [.int x0] [.int p0] H Q = Q (some (.int p0)) H := jsret_i at184_35 rfl
theorem en184 {S : Option (Nat × (Nat → Int32))} {H : jm_H} {Q : Option Value → jm_H → Prop} {x0 : Int32} : jm_c S 184 [.int x0] H Q = jm_w S 1 184 0 [.int x0] [] H Q := rfl
theorem at185_0 : jm_at 185 0 = some (.iconst 0) := rfl
theorem at185_1 : jm_at 185 1 = some (.istore_n 1) := rfl
theorem u185_0 {S : Option (Nat × (Nat → Int32))} {H : jm_H} {Q : Option Value → jm_H → Prop} {r0 : Nat} : jm_w S 9 185 0 [.ref r0, .null] [] H Q = jm_w S 9 185 2 [.ref r0, .int (0 : Int32)] [] H Q := (jsci at185_0 rfl rfl).trans (js1 at185_1 rfl rfl rfl)
theorem at185_2 : jm_at 185 2 = some (.iload_n 1) := rfl
theorem at185_3 : jm_at 185 3 = some (.aload_n 0) := rfl
theorem at185_4 : jm_at 185 4 = some (.getfield 191) := rfl
theorem rv185g_191 : jm_rv 185 (.getfield 191) = (0, 12, 29, 0) := rfl
theorem at185_7 : jm_at 185 7 = some (.if_icmp .ge 33) := rfl
theorem u185_2 {S : Option (Nat × (Nat → Int32))} {H : jm_H} {Q : Option Value → jm_H → Prop} {r0 : Nat} {x1 : Int32} (h0 : jm_tg H r0 = 13) : jm_w S 9 185 2 [.ref r0, .int x1] [] H Q = if (jm_I H r0 29) ≤ x1 then jm_w S 9 185 40 [.ref r0, .int x1] [] H Q else jm_w S 9 185 10 [.ref r0, .int x1] [] H Q := (js1 at185_2 rfl rfl rfl).trans ((js1 at185_3 rfl rfl rfl).trans ((jsgI (H := H) at185_4 rv185g_191 (Or.inl rfl) h0 rfl).trans (jsif (P := (jm_I H r0 29) ≤ x1) at185_7 rfl rfl)))
theorem at185_10 : jm_at 185 10 = some (.aload_n 0) := rfl
theorem at185_11 : jm_at 185 11 = some (.getfield 43) := rfl
theorem rv185g_43 : jm_rv 185 (.getfield 43) = (0, 12, 19, 0) := rfl
theorem at185_14 : jm_at 185 14 = some (.iload_n 1) := rfl
theorem at185_15 : jm_at 185 15 = some (.aload_n 0) := rfl
theorem at185_16 : jm_at 185 16 = some (.getfield 58) := rfl
theorem rv185g_58 : jm_rv 185 (.getfield 58) = (0, 12, 26, 0) := rfl
theorem at185_19 : jm_at 185 19 = some (.iload_n 1) := rfl
theorem at185_20 : jm_at 185 20 = some (.iaload) := rfl
theorem at185_21 : jm_at 185 21 = some (.iastore) := rfl
theorem at185_22 : jm_at 185 22 = some (.aload_n 0) := rfl
theorem at185_23 : jm_at 185 23 = some (.getfield 46) := rfl
theorem rv185g_46 : jm_rv 185 (.getfield 46) = (0, 12, 20, 0) := rfl
theorem at185_26 : jm_at 185 26 = some (.iload_n 1) := rfl
theorem at185_27 : jm_at 185 27 = some (.aload_n 0) := rfl
theorem at185_28 : jm_at 185 28 = some (.getfield 61) := rfl
theorem rv185g_61 : jm_rv 185 (.getfield 61) = (0, 12, 27, 0) := rfl
theorem at185_31 : jm_at 185 31 = some (.iload_n 1) := rfl
theorem at185_32 : jm_at 185 32 = some (.iaload) := rfl
theorem at185_33 : jm_at 185 33 = some (.iastore) := rfl
theorem at185_34 : jm_at 185 34 = some (.iinc 1 1) := rfl
theorem at185_37 : jm_at 185 37 = some (.goto (-35)) := rfl
theorem u185_10 {S : Option (Nat × (Nat → Int32))} {H : jm_H} {Q : Option Value → jm_H → Prop} {r0 : Nat} {x1 : Int32} (h0 : jm_tg H r0 = 13) (h1 : ¬ jm_R H r0 19 = 0) (h2 : ¬ jm_R H r0 26 = 0) (h3 : ¬ (x1 < 0 ∨ jm_ln H (jm_R H r0 26) ≤ Int32.toNatClampNeg x1)) (h4 : ¬ (jm_R H r0 26) = 1) (h5 : jm_tg H (jm_R H r0 26) = 100) (h6 : ¬ (x1 < 0 ∨ jm_ln H (jm_R H r0 19) ≤ Int32.toNatClampNeg x1)) (h7 : jm_tg H (jm_R H r0 19) = 100) (h8 : ¬ jm_R H r0 20 = 0) (h9 : ¬ jm_R H r0 27 = 0) (h10 : ¬ (x1 < 0 ∨ jm_ln H (jm_R H r0 27) ≤ Int32.toNatClampNeg x1)) (h11 : ¬ (jm_R H r0 27) = 1) (h12 : jm_tg H (jm_R H r0 27) = 100) (h13 : ¬ (x1 < 0 ∨ jm_ln H (jm_R H r0 20) ≤ Int32.toNatClampNeg x1)) (h14 : jm_tg H (jm_R H r0 20) = 100) : jm_w S 9 185 10 [.ref r0, .int x1] [] H Q = jm_w S 9 185 2 [.ref r0, .int (x1 + 1)] [] (jm_pI (jm_pI H (jm_R H r0 19) (Int32.toNatClampNeg x1) (jm_I H (jm_R H r0 26) (Int32.toNatClampNeg x1))) (jm_R H r0 20) (Int32.toNatClampNeg x1) (jm_I (jm_pI H (jm_R H r0 19) (Int32.toNatClampNeg x1) (jm_I H (jm_R H r0 26) (Int32.toNatClampNeg x1))) (jm_R H r0 27) (Int32.toNatClampNeg x1))) Q := (js1 at185_10 rfl rfl rfl).trans ((jsgR (H := H) at185_11 rv185g_43 rfl h0 h1 rfl).trans ((js1 at185_14 rfl rfl rfl).trans ((js1 at185_15 rfl rfl rfl).trans ((jsgR (H := H) at185_16 rv185g_58 rfl h0 h2 rfl).trans ((js1 at185_19 rfl rfl rfl).trans ((jsial (H := H) at185_20 h4 h5 h3 rfl).trans ((jsias (H := H) at185_21 h7 h6 rfl).trans ((js1 at185_22 rfl rfl rfl).trans ((jsgR (H := (jm_pI H (jm_R H r0 19) (Int32.toNatClampNeg x1) (jm_I H (jm_R H r0 26) (Int32.toNatClampNeg x1)))) at185_23 rv185g_46 rfl h0 h8 rfl).trans ((js1 at185_26 rfl rfl rfl).trans ((js1 at185_27 rfl rfl rfl).trans ((jsgR (H := (jm_pI H (jm_R H r0 19) (Int32.toNatClampNeg x1) (jm_I H (jm_R H r0 26) (Int32.toNatClampNeg x1)))) at185_28 rv185g_61 rfl h0 h9 rfl).trans ((js1 at185_31 rfl rfl rfl).trans ((jsial (H := (jm_pI H (jm_R H r0 19) (Int32.toNatClampNeg x1) (jm_I H (jm_R H r0 26) (Int32.toNatClampNeg x1)))) at185_32 h11 h12 h10 rfl).trans ((jsias (H := (jm_pI H (jm_R H r0 19) (Int32.toNatClampNeg x1) (jm_I H (jm_R H r0 26) (Int32.toNatClampNeg x1)))) at185_33 h14 h13 rfl).trans ((jsinc at185_34 rfl rfl rfl).trans (js2 at185_37 rfl rfl)))))))))))))))))
theorem at185_40 : jm_at 185 40 = some (.aload_n 0) := rfl
theorem at185_41 : jm_at 185 41 = some (.aload_n 0) := rfl
theorem at185_42 : jm_at 185 42 = some (.getfield 191) := rfl
theorem at185_45 : jm_at 185 45 = some (.putfield 194) := rfl
theorem rv185p_194 : jm_rv 185 (.putfield 194) = (0, 12, 21, 0) := rfl
theorem at185_48 : jm_at 185 48 = some (.aload_n 0) := rfl
theorem at185_49 : jm_at 185 49 = some (.aload_n 0) := rfl
theorem at185_50 : jm_at 185 50 = some (.getfield 197) := rfl
theorem rv185g_197 : jm_rv 185 (.getfield 197) = (0, 12, 30, 0) := rfl
theorem at185_53 : jm_at 185 53 = some (.putfield 200) := rfl
theorem rv185p_200 : jm_rv 185 (.putfield 200) = (0, 12, 25, 0) := rfl
theorem at185_56 : jm_at 185 56 = some (.iconst 0) := rfl
theorem at185_57 : jm_at 185 57 = some (.istore_n 1) := rfl
theorem u185_40 {S : Option (Nat × (Nat → Int32))} {H : jm_H} {Q : Option Value → jm_H → Prop} {r0 : Nat} {x1 : Int32} (h0 : jm_tg H r0 = 13) : jm_w S 9 185 40 [.ref r0, .int x1] [] H Q = jm_w S 9 185 58 [.ref r0, .int (0 : Int32)] [] (jm_pI (jm_pI H r0 21 (jm_I H r0 29)) r0 25 (jm_I (jm_pI H r0 21 (jm_I H r0 29)) r0 30)) Q := (js1 at185_40 rfl rfl rfl).trans ((js1 at185_41 rfl rfl rfl).trans ((jsgI (H := H) at185_42 rv185g_191 (Or.inl rfl) h0 rfl).trans ((jspI (H := H) at185_45 rv185p_194 rfl h0 rfl).trans ((js1 at185_48 rfl rfl rfl).trans ((js1 at185_49 rfl rfl rfl).trans ((jsgI (H := (jm_pI H r0 21 (jm_I H r0 29))) at185_50 rv185g_197 (Or.inl rfl) h0 rfl).trans ((jspI (H := (jm_pI H r0 21 (jm_I H r0 29))) at185_53 rv185p_200 rfl h0 rfl).trans ((jsci at185_56 rfl rfl).trans (js1 at185_57 rfl rfl rfl)))))))))
theorem at185_58 : jm_at 185 58 = some (.iload_n 1) := rfl
theorem at185_59 : jm_at 185 59 = some (.aload_n 0) := rfl
theorem at185_60 : jm_at 185 60 = some (.getfield 200) := rfl
theorem rv185g_200 : jm_rv 185 (.getfield 200) = (0, 12, 25, 0) := rfl
theorem at185_63 : jm_at 185 63 = some (.if_icmp .gt 21) := rfl
theorem u185_58 {S : Option (Nat × (Nat → Int32))} {H : jm_H} {Q : Option Value → jm_H → Prop} {r0 : Nat} {x1 : Int32} (h0 : jm_tg H r0 = 13) : jm_w S 9 185 58 [.ref r0, .int x1] [] H Q = if (jm_I H r0 25) < x1 then jm_w S 9 185 84 [.ref r0, .int x1] [] H Q else jm_w S 9 185 66 [.ref r0, .int x1] [] H Q := (js1 at185_58 rfl rfl rfl).trans ((js1 at185_59 rfl rfl rfl).trans ((jsgI (H := H) at185_60 rv185g_200 (Or.inl rfl) h0 rfl).trans (jsif (P := (jm_I H r0 25) < x1) at185_63 rfl rfl)))
theorem at185_66 : jm_at 185 66 = some (.aload_n 0) := rfl
theorem at185_67 : jm_at 185 67 = some (.getfield 49) := rfl
theorem rv185g_49 : jm_rv 185 (.getfield 49) = (0, 12, 22, 0) := rfl
theorem at185_70 : jm_at 185 70 = some (.iload_n 1) := rfl
theorem at185_71 : jm_at 185 71 = some (.aload_n 0) := rfl
theorem at185_72 : jm_at 185 72 = some (.getfield 64) := rfl
theorem rv185g_64 : jm_rv 185 (.getfield 64) = (0, 12, 28, 0) := rfl
theorem at185_75 : jm_at 185 75 = some (.iload_n 1) := rfl
theorem at185_76 : jm_at 185 76 = some (.iaload) := rfl
theorem at185_77 : jm_at 185 77 = some (.iastore) := rfl
theorem at185_78 : jm_at 185 78 = some (.iinc 1 1) := rfl
theorem at185_81 : jm_at 185 81 = some (.goto (-23)) := rfl
theorem u185_66 {S : Option (Nat × (Nat → Int32))} {H : jm_H} {Q : Option Value → jm_H → Prop} {r0 : Nat} {x1 : Int32} (h0 : jm_tg H r0 = 13) (h1 : ¬ jm_R H r0 22 = 0) (h2 : ¬ jm_R H r0 28 = 0) (h3 : ¬ (x1 < 0 ∨ jm_ln H (jm_R H r0 28) ≤ Int32.toNatClampNeg x1)) (h4 : ¬ (jm_R H r0 28) = 1) (h5 : jm_tg H (jm_R H r0 28) = 100) (h6 : ¬ (x1 < 0 ∨ jm_ln H (jm_R H r0 22) ≤ Int32.toNatClampNeg x1)) (h7 : jm_tg H (jm_R H r0 22) = 100) : jm_w S 9 185 66 [.ref r0, .int x1] [] H Q = jm_w S 9 185 58 [.ref r0, .int (x1 + 1)] [] (jm_pI H (jm_R H r0 22) (Int32.toNatClampNeg x1) (jm_I H (jm_R H r0 28) (Int32.toNatClampNeg x1))) Q := (js1 at185_66 rfl rfl rfl).trans ((jsgR (H := H) at185_67 rv185g_49 rfl h0 h1 rfl).trans ((js1 at185_70 rfl rfl rfl).trans ((js1 at185_71 rfl rfl rfl).trans ((jsgR (H := H) at185_72 rv185g_64 rfl h0 h2 rfl).trans ((js1 at185_75 rfl rfl rfl).trans ((jsial (H := H) at185_76 h4 h5 h3 rfl).trans ((jsias (H := H) at185_77 h7 h6 rfl).trans ((jsinc at185_78 rfl rfl rfl).trans (js2 at185_81 rfl rfl)))))))))
theorem at185_84 : jm_at 185 84 = some (.iconst 0) := rfl
theorem at185_85 : jm_at 185 85 = some (.istore_n 1) := rfl
theorem u185_84 {S : Option (Nat × (Nat → Int32))} {H : jm_H} {Q : Option Value → jm_H → Prop} {r0 : Nat} {x1 : Int32} : jm_w S 9 185 84 [.ref r0, .int x1] [] H Q = jm_w S 9 185 86 [.ref r0, .int (0 : Int32)] [] H Q := (jsci at185_84 rfl rfl).trans (js1 at185_85 rfl rfl rfl)
theorem at185_86 : jm_at 185 86 = some (.iload_n 1) := rfl
theorem at185_87 : jm_at 185 87 = some (.bipush 20) := rfl
theorem at185_89 : jm_at 185 89 = some (.if_icmp .ge 16) := rfl
theorem u185_86 {S : Option (Nat × (Nat → Int32))} {H : jm_H} {Q : Option Value → jm_H → Prop} {r0 : Nat} {x1 : Int32} : jm_w S 9 185 86 [.ref r0, .int x1] [] H Q = if (20 : Int32) ≤ x1 then jm_w S 9 185 105 [.ref r0, .int x1] [] H Q else jm_w S 9 185 92 [.ref r0, .int x1] [] H Q := (js1 at185_86 rfl rfl rfl).trans ((jscb at185_87 rfl rfl).trans (jsif (P := (20 : Int32) ≤ x1) at185_89 rfl rfl))
theorem at185_92 : jm_at 185 92 = some (.aload_n 0) := rfl
theorem at185_93 : jm_at 185 93 = some (.getfield 40) := rfl
theorem rv185g_40 : jm_rv 185 (.getfield 40) = (0, 12, 17, 0) := rfl
theorem at185_96 : jm_at 185 96 = some (.iload_n 1) := rfl
theorem at185_97 : jm_at 185 97 = some (.iconst 0) := rfl
theorem at185_98 : jm_at 185 98 = some (.iastore) := rfl
theorem at185_99 : jm_at 185 99 = some (.iinc 1 1) := rfl
theorem at185_102 : jm_at 185 102 = some (.goto (-16)) := rfl
theorem u185_92 {S : Option (Nat × (Nat → Int32))} {H : jm_H} {Q : Option Value → jm_H → Prop} {r0 : Nat} {x1 : Int32} (h0 : jm_tg H r0 = 13) (h1 : ¬ jm_R H r0 17 = 0) (h2 : ¬ (x1 < 0 ∨ jm_ln H (jm_R H r0 17) ≤ Int32.toNatClampNeg x1)) (h3 : jm_tg H (jm_R H r0 17) = 100) : jm_w S 9 185 92 [.ref r0, .int x1] [] H Q = jm_w S 9 185 86 [.ref r0, .int (x1 + 1)] [] (jm_pI H (jm_R H r0 17) (Int32.toNatClampNeg x1) (0 : Int32)) Q := (js1 at185_92 rfl rfl rfl).trans ((jsgR (H := H) at185_93 rv185g_40 rfl h0 h1 rfl).trans ((js1 at185_96 rfl rfl rfl).trans ((jsci at185_97 rfl rfl).trans ((jsias (H := H) at185_98 h3 h2 rfl).trans ((jsinc at185_99 rfl rfl rfl).trans (js2 at185_102 rfl rfl))))))
theorem at185_105 : jm_at 185 105 = some (.aload_n 0) := rfl
theorem at185_106 : jm_at 185 106 = some (.getfield 40) := rfl
theorem at185_109 : jm_at 185 109 = some (.iconst 0) := rfl
theorem at185_110 : jm_at 185 110 = some (.aload_n 0) := rfl
theorem at185_111 : jm_at 185 111 = some (.getfield 27) := rfl
theorem rv185g_27 : jm_rv 185 (.getfield 27) = (0, 12, 7, 0) := rfl
theorem at185_114 : jm_at 185 114 = some (.iconst 1) := rfl
theorem at185_115 : jm_at 185 115 = some (.iaload) := rfl
theorem at185_116 : jm_at 185 116 = some (.iastore) := rfl
theorem at185_117 : jm_at 185 117 = some (.aload_n 0) := rfl
theorem at185_118 : jm_at 185 118 = some (.getfield 40) := rfl
theorem at185_121 : jm_at 185 121 = some (.iconst 1) := rfl
theorem at185_122 : jm_at 185 122 = some (.aload_n 0) := rfl
theorem at185_123 : jm_at 185 123 = some (.getfield 27) := rfl
theorem at185_126 : jm_at 185 126 = some (.iconst 2) := rfl
theorem at185_127 : jm_at 185 127 = some (.iaload) := rfl
theorem at185_128 : jm_at 185 128 = some (.iastore) := rfl
theorem at185_129 : jm_at 185 129 = some (.aload_n 0) := rfl
theorem at185_130 : jm_at 185 130 = some (.invokevirtual 203) := rfl
theorem rv185i_203 : jm_rv 185 (.invokevirtual 203) = (2, 186, 0, 0) := rfl
theorem u185_105 {S : Option (Nat × (Nat → Int32))} {H : jm_H} {Q : Option Value → jm_H → Prop} {r0 : Nat} {x1 : Int32} (h0 : jm_tg H r0 = 13) (h1 : ¬ jm_R H r0 17 = 0) (h2 : ¬ jm_R H r0 7 = 0) (h3 : ¬ ((1 : Int32) < 0 ∨ jm_ln H (jm_R H r0 7) ≤ Int32.toNatClampNeg (1 : Int32))) (h4 : ¬ (jm_R H r0 7) = 1) (h5 : jm_tg H (jm_R H r0 7) = 100) (h6 : ¬ ((0 : Int32) < 0 ∨ jm_ln H (jm_R H r0 17) ≤ Int32.toNatClampNeg (0 : Int32))) (h7 : jm_tg H (jm_R H r0 17) = 100) (h8 : ¬ ((2 : Int32) < 0 ∨ jm_ln H (jm_R H r0 7) ≤ Int32.toNatClampNeg (2 : Int32))) (h9 : ¬ ((1 : Int32) < 0 ∨ jm_ln H (jm_R H r0 17) ≤ Int32.toNatClampNeg (1 : Int32))) : jm_w S 9 185 105 [.ref r0, .int x1] [] H Q = jm_c S 186 [.ref r0] (jm_pI (jm_pI H (jm_R H r0 17) (Int32.toNatClampNeg (0 : Int32)) (jm_I H (jm_R H r0 7) (Int32.toNatClampNeg (1 : Int32)))) (jm_R H r0 17) (Int32.toNatClampNeg (1 : Int32)) (jm_I (jm_pI H (jm_R H r0 17) (Int32.toNatClampNeg (0 : Int32)) (jm_I H (jm_R H r0 7) (Int32.toNatClampNeg (1 : Int32)))) (jm_R H r0 7) (Int32.toNatClampNeg (2 : Int32)))) (fun v G => jm_w S 9 185 133 [.ref r0, .int x1] (v.toList ++ []) G Q) := (js1 at185_105 rfl rfl rfl).trans ((jsgR (H := H) at185_106 rv185g_40 rfl h0 h1 rfl).trans ((jsci at185_109 rfl rfl).trans ((js1 at185_110 rfl rfl rfl).trans ((jsgR (H := H) at185_111 rv185g_27 rfl h0 h2 rfl).trans ((jsci at185_114 rfl rfl).trans ((jsial (H := H) at185_115 h4 h5 h3 rfl).trans ((jsias (H := H) at185_116 h7 h6 rfl).trans ((js1 at185_117 rfl rfl rfl).trans ((jsgR (H := (jm_pI H (jm_R H r0 17) (Int32.toNatClampNeg (0 : Int32)) (jm_I H (jm_R H r0 7) (Int32.toNatClampNeg (1 : Int32))))) at185_118 rv185g_40 rfl h0 h1 rfl).trans ((jsci at185_121 rfl rfl).trans ((js1 at185_122 rfl rfl rfl).trans ((jsgR (H := (jm_pI H (jm_R H r0 17) (Int32.toNatClampNeg (0 : Int32)) (jm_I H (jm_R H r0 7) (Int32.toNatClampNeg (1 : Int32))))) at185_123 rv185g_27 rfl h0 h2 rfl).trans ((jsci at185_126 rfl rfl).trans ((jsial (H := (jm_pI H (jm_R H r0 17) (Int32.toNatClampNeg (0 : Int32)) (jm_I H (jm_R H r0 7) (Int32.toNatClampNeg (1 : Int32))))) at185_127 h4 h5 h8 rfl).trans ((jsias (H := (jm_pI H (jm_R H r0 17) (Int32.toNatClampNeg (0 : Int32)) (jm_I H (jm_R H r0 7) (Int32.toNatClampNeg (1 : Int32))))) at185_128 h7 h9 rfl).trans ((js1 at185_129 rfl rfl rfl).trans (jscall (H := (jm_pI (jm_pI H (jm_R H r0 17) (Int32.toNatClampNeg (0 : Int32)) (jm_I H (jm_R H r0 7) (Int32.toNatClampNeg (1 : Int32)))) (jm_R H r0 17) (Int32.toNatClampNeg (1 : Int32)) (jm_I (jm_pI H (jm_R H r0 17) (Int32.toNatClampNeg (0 : Int32)) (jm_I H (jm_R H r0 7) (Int32.toNatClampNeg (1 : Int32)))) (jm_R H r0 7) (Int32.toNatClampNeg (2 : Int32))))) (as := [.ref r0]) (q := []) at185_130 rfl rv185i_203 (jscutV rfl rfl rfl (Nat.le_of_ble_eq_true rfl) rfl h0) rfl (Nat.le_of_ble_eq_true rfl) rfl rfl)))))))))))))))))
theorem at185_133 : jm_at 185 133 = some (.aload_n 0) := rfl
theorem at185_134 : jm_at 185 134 = some (.iconst 0) := rfl
theorem at185_135 : jm_at 185 135 = some (.putfield 206) := rfl
theorem rv185p_206 : jm_rv 185 (.putfield 206) = (0, 12, 40, 0) := rfl
theorem at185_138 : jm_at 185 138 = some (.iconst 0) := rfl
theorem at185_139 : jm_at 185 139 = some (.istore_n 1) := rfl
theorem u185_133 {S : Option (Nat × (Nat → Int32))} {H : jm_H} {Q : Option Value → jm_H → Prop} {r0 : Nat} {x1 : Int32} (h0 : jm_tg H r0 = 13) : jm_w S 9 185 133 [.ref r0, .int x1] [] H Q = jm_w S 9 185 140 [.ref r0, .int (0 : Int32)] [] (jm_pI H r0 40 (0 : Int32)) Q := (js1 at185_133 rfl rfl rfl).trans ((jsci at185_134 rfl rfl).trans ((jspI (H := H) at185_135 rv185p_206 rfl h0 rfl).trans ((jsci at185_138 rfl rfl).trans (js1 at185_139 rfl rfl rfl))))
theorem at185_140 : jm_at 185 140 = some (.iload_n 1) := rfl
theorem at185_141 : jm_at 185 141 = some (.iconst 3) := rfl
theorem at185_142 : jm_at 185 142 = some (.if_icmp .ge 16) := rfl
theorem u185_140 {S : Option (Nat × (Nat → Int32))} {H : jm_H} {Q : Option Value → jm_H → Prop} {r0 : Nat} {x1 : Int32} : jm_w S 9 185 140 [.ref r0, .int x1] [] H Q = if (3 : Int32) ≤ x1 then jm_w S 9 185 158 [.ref r0, .int x1] [] H Q else jm_w S 9 185 145 [.ref r0, .int x1] [] H Q := (js1 at185_140 rfl rfl rfl).trans ((jsci at185_141 rfl rfl).trans (jsif (P := (3 : Int32) ≤ x1) at185_142 rfl rfl))
theorem at185_145 : jm_at 185 145 = some (.aload_n 0) := rfl
theorem at185_146 : jm_at 185 146 = some (.getfield 88) := rfl
theorem rv185g_88 : jm_rv 185 (.getfield 88) = (0, 12, 42, 0) := rfl
theorem at185_149 : jm_at 185 149 = some (.iload_n 1) := rfl
theorem at185_150 : jm_at 185 150 = some (.iconst 0) := rfl
theorem at185_151 : jm_at 185 151 = some (.bastore) := rfl
theorem at185_152 : jm_at 185 152 = some (.iinc 1 1) := rfl
theorem at185_155 : jm_at 185 155 = some (.goto (-15)) := rfl
theorem u185_145 {S : Option (Nat × (Nat → Int32))} {H : jm_H} {Q : Option Value → jm_H → Prop} {r0 : Nat} {x1 : Int32} (h0 : jm_tg H r0 = 13) (h1 : ¬ jm_R H r0 42 = 0) (h2 : ¬ (x1 < 0 ∨ jm_ln H (jm_R H r0 42) ≤ Int32.toNatClampNeg x1)) (h3 : jm_tg H (jm_R H r0 42) = 103) : jm_w S 9 185 145 [.ref r0, .int x1] [] H Q = jm_w S 9 185 140 [.ref r0, .int (x1 + 1)] [] (jm_pI H (jm_R H r0 42) (Int32.toNatClampNeg x1) (0 : Int32)) Q := (js1 at185_145 rfl rfl rfl).trans ((jsgR (H := H) at185_146 rv185g_88 rfl h0 h1 rfl).trans ((js1 at185_149 rfl rfl rfl).trans ((jsci at185_150 rfl rfl).trans ((jszas (H := H) at185_151 h3 h2 (by decide) rfl).trans ((jsinc at185_152 rfl rfl rfl).trans (js2 at185_155 rfl rfl))))))
theorem at185_158 : jm_at 185 158 = some (.return_) := rfl
theorem u185_158 {S : Option (Nat × (Nat → Int32))} {H : jm_H} {Q : Option Value → jm_H → Prop} {r0 : Nat} {x1 : Int32} : jm_w S 9 185 158 [.ref r0, .int x1] [] H Q = Q none H := jsret_v at185_158 rfl
theorem en185 {S : Option (Nat × (Nat → Int32))} {H : jm_H} {Q : Option Value → jm_H → Prop} {r0 : Nat} : jm_c S 185 [.ref r0] H Q = jm_w S 9 185 0 [.ref r0, .null] [] H Q := rfl
theorem at186_0 : jm_at 186 0 = some (.iconst 0) := rfl
theorem at186_1 : jm_at 186 1 = some (.istore_n 1) := rfl
theorem u186_0 {S : Option (Nat × (Nat → Int32))} {H : jm_H} {Q : Option Value → jm_H → Prop} {r0 : Nat} : jm_w S 8 186 0 [.ref r0, .null] [] H Q = jm_w S 8 186 2 [.ref r0, .int (0 : Int32)] [] H Q := (jsci at186_0 rfl rfl).trans (js1 at186_1 rfl rfl rfl)
theorem at186_2 : jm_at 186 2 = some (.iload_n 1) := rfl
theorem at186_3 : jm_at 186 3 = some (.aload_n 0) := rfl
theorem at186_4 : jm_at 186 4 = some (.getfield 200) := rfl
theorem rv186g_200 : jm_rv 186 (.getfield 200) = (0, 12, 25, 0) := rfl
theorem at186_7 : jm_at 186 7 = some (.if_icmp .ge 32) := rfl
theorem u186_2 {S : Option (Nat × (Nat → Int32))} {H : jm_H} {Q : Option Value → jm_H → Prop} {r0 : Nat} {x1 : Int32} (h0 : jm_tg H r0 = 13) : jm_w S 8 186 2 [.ref r0, .int x1] [] H Q = if (jm_I H r0 25) ≤ x1 then jm_w S 8 186 39 [.ref r0, .int x1] [] H Q else jm_w S 8 186 10 [.ref r0, .int x1] [] H Q := (js1 at186_2 rfl rfl rfl).trans ((js1 at186_3 rfl rfl rfl).trans ((jsgI (H := H) at186_4 rv186g_200 (Or.inl rfl) h0 rfl).trans (jsif (P := (jm_I H r0 25) ≤ x1) at186_7 rfl rfl)))
theorem at186_10 : jm_at 186 10 = some (.aload_n 0) := rfl
theorem at186_11 : jm_at 186 11 = some (.getfield 55) := rfl
theorem rv186g_55 : jm_rv 186 (.getfield 55) = (0, 12, 24, 0) := rfl
theorem at186_14 : jm_at 186 14 = some (.iload_n 1) := rfl
theorem at186_15 : jm_at 186 15 = some (.aload_n 0) := rfl
theorem at186_16 : jm_at 186 16 = some (.iload_n 1) := rfl
theorem at186_17 : jm_at 186 17 = some (.aload_n 0) := rfl
theorem at186_18 : jm_at 186 18 = some (.getfield 40) := rfl
theorem rv186g_40 : jm_rv 186 (.getfield 40) = (0, 12, 17, 0) := rfl
theorem at186_21 : jm_at 186 21 = some (.iconst 0) := rfl
theorem at186_22 : jm_at 186 22 = some (.iaload) := rfl
theorem at186_23 : jm_at 186 23 = some (.aload_n 0) := rfl
theorem at186_24 : jm_at 186 24 = some (.getfield 40) := rfl
theorem at186_27 : jm_at 186 27 = some (.iconst 1) := rfl
theorem at186_28 : jm_at 186 28 = some (.iaload) := rfl
theorem at186_29 : jm_at 186 29 = some (.invokevirtual 252) := rfl
theorem rv186i_252 : jm_rv 186 (.invokevirtual 252) = (2, 187, 0, 0) := rfl
theorem u186_10 {S : Option (Nat × (Nat → Int32))} {H : jm_H} {Q : Option Value → jm_H → Prop} {r0 : Nat} {x1 : Int32} (h0 : jm_tg H r0 = 13) (h1 : ¬ jm_R H r0 24 = 0) (h2 : ¬ jm_R H r0 17 = 0) (h3 : ¬ ((0 : Int32) < 0 ∨ jm_ln H (jm_R H r0 17) ≤ Int32.toNatClampNeg (0 : Int32))) (h4 : ¬ (jm_R H r0 17) = 1) (h5 : jm_tg H (jm_R H r0 17) = 100) (h6 : ¬ ((1 : Int32) < 0 ∨ jm_ln H (jm_R H r0 17) ≤ Int32.toNatClampNeg (1 : Int32))) : jm_w S 8 186 10 [.ref r0, .int x1] [] H Q = jm_c S 187 [.ref r0, .int x1, .int (jm_I H (jm_R H r0 17) (Int32.toNatClampNeg (0 : Int32))), .int (jm_I H (jm_R H r0 17) (Int32.toNatClampNeg (1 : Int32)))] H (fun v G => jm_w S 8 186 32 [.ref r0, .int x1] (v.toList ++ [.int x1, .ref (jm_R H r0 24)]) G Q) := (js1 at186_10 rfl rfl rfl).trans ((jsgR (H := H) at186_11 rv186g_55 rfl h0 h1 rfl).trans ((js1 at186_14 rfl rfl rfl).trans ((js1 at186_15 rfl rfl rfl).trans ((js1 at186_16 rfl rfl rfl).trans ((js1 at186_17 rfl rfl rfl).trans ((jsgR (H := H) at186_18 rv186g_40 rfl h0 h2 rfl).trans ((jsci at186_21 rfl rfl).trans ((jsial (H := H) at186_22 h4 h5 h3 rfl).trans ((js1 at186_23 rfl rfl rfl).trans ((jsgR (H := H) at186_24 rv186g_40 rfl h0 h2 rfl).trans ((jsci at186_27 rfl rfl).trans ((jsial (H := H) at186_28 h4 h5 h6 rfl).trans (jscall (H := H) (as := [.ref r0, .int x1, .int (jm_I H (jm_R H r0 17) (Int32.toNatClampNeg (0 : Int32))), .int (jm_I H (jm_R H r0 17) (Int32.toNatClampNeg (1 : Int32)))]) (q := [.int x1, .ref (jm_R H r0 24)]) at186_29 rfl rv186i_252 (jscutV rfl rfl rfl (Nat.le_of_ble_eq_true rfl) rfl h0) rfl (Nat.le_of_ble_eq_true rfl) rfl rfl)))))))))))))
theorem at186_32 : jm_at 186 32 = some (.iastore) := rfl
theorem at186_33 : jm_at 186 33 = some (.iinc 1 1) := rfl
theorem at186_36 : jm_at 186 36 = some (.goto (-34)) := rfl
theorem u186_32 {S : Option (Nat × (Nat → Int32))} {H : jm_H} {Q : Option Value → jm_H → Prop} {r0 o0 : Nat} {x1 p1 p2 : Int32} (h0 : ¬ (p1 < 0 ∨ jm_ln H o0 ≤ Int32.toNatClampNeg p1)) (h1 : jm_tg H o0 = 100) : jm_w S 8 186 32 [.ref r0, .int x1] [.int p2, .int p1, .ref o0] H Q = jm_w S 8 186 2 [.ref r0, .int (x1 + 1)] [] (jm_pI H o0 (Int32.toNatClampNeg p1) p2) Q := (jsias (H := H) at186_32 h1 h0 rfl).trans ((jsinc at186_33 rfl rfl rfl).trans (js2 at186_36 rfl rfl))
theorem at186_39 : jm_at 186 39 = some (.return_) := rfl
theorem u186_39 {S : Option (Nat × (Nat → Int32))} {H : jm_H} {Q : Option Value → jm_H → Prop} {r0 : Nat} {x1 : Int32} : jm_w S 8 186 39 [.ref r0, .int x1] [] H Q = Q none H := jsret_v at186_39 rfl
theorem en186 {S : Option (Nat × (Nat → Int32))} {H : jm_H} {Q : Option Value → jm_H → Prop} {r0 : Nat} : jm_c S 186 [.ref r0] H Q = jm_w S 8 186 0 [.ref r0, .null] [] H Q := rfl
theorem at187_0 : jm_at 187 0 = some (.iconst 0) := rfl
theorem at187_1 : jm_at 187 1 = some (.istore 4) := rfl
theorem at187_3 : jm_at 187 3 = some (.aload_n 0) := rfl
theorem at187_4 : jm_at 187 4 = some (.getfield 49) := rfl
theorem rv187g_49 : jm_rv 187 (.getfield 49) = (0, 12, 22, 0) := rfl
theorem at187_7 : jm_at 187 7 = some (.iload_n 1) := rfl
theorem at187_8 : jm_at 187 8 = some (.iaload) := rfl
theorem at187_9 : jm_at 187 9 = some (.istore 5) := rfl
theorem u187_0 {S : Option (Nat × (Nat → Int32))} {H : jm_H} {Q : Option Value → jm_H → Prop} {r0 : Nat} {x1 x2 x3 : Int32} (h0 : jm_tg H r0 = 13) (h1 : ¬ jm_R H r0 22 = 0) (h2 : ¬ (x1 < 0 ∨ jm_ln H (jm_R H r0 22) ≤ Int32.toNatClampNeg x1)) (h3 : ¬ (jm_R H r0 22) = 1) (h4 : jm_tg H (jm_R H r0 22) = 100) : jm_w S 7 187 0 [.ref r0, .int x1, .int x2, .int x3, .null, .null, .null] [] H Q = jm_w S 7 187 11 [.ref r0, .int x1, .int x2, .int x3, .int (0 : Int32), .int (jm_I H (jm_R H r0 22) (Int32.toNatClampNeg x1)), .null] [] H Q := (jsci at187_0 rfl rfl).trans ((js1 at187_1 rfl rfl rfl).trans ((js1 at187_3 rfl rfl rfl).trans ((jsgR (H := H) at187_4 rv187g_49 rfl h0 h1 rfl).trans ((js1 at187_7 rfl rfl rfl).trans ((jsial (H := H) at187_8 h3 h4 h2 rfl).trans (js1 at187_9 rfl rfl rfl))))))
theorem at187_11 : jm_at 187 11 = some (.iload 5) := rfl
theorem at187_13 : jm_at 187 13 = some (.aload_n 0) := rfl
theorem at187_14 : jm_at 187 14 = some (.getfield 49) := rfl
theorem at187_17 : jm_at 187 17 = some (.iload_n 1) := rfl
theorem at187_18 : jm_at 187 18 = some (.iconst 1) := rfl
theorem at187_19 : jm_at 187 19 = some (.iadd) := rfl
theorem at187_20 : jm_at 187 20 = some (.iaload) := rfl
theorem at187_21 : jm_at 187 21 = some (.if_icmp .ge 243) := rfl
theorem u187_11 {S : Option (Nat × (Nat → Int32))} {H : jm_H} {Q : Option Value → jm_H → Prop} {r0 : Nat} {x1 x2 x3 x4 x5 : Int32} {w6 : Value} (h0 : jm_tg H r0 = 13) (h1 : ¬ jm_R H r0 22 = 0) (h2 : ¬ ((x1 + (1 : Int32)) < 0 ∨ jm_ln H (jm_R H r0 22) ≤ Int32.toNatClampNeg (x1 + (1 : Int32)))) (h3 : ¬ (jm_R H r0 22) = 1) (h4 : jm_tg H (jm_R H r0 22) = 100) : jm_w S 7 187 11 [.ref r0, .int x1, .int x2, .int x3, .int x4, .int x5, w6] [] H Q = if (jm_I H (jm_R H r0 22) (Int32.toNatClampNeg (x1 + (1 : Int32)))) ≤ x5 then jm_w S 7 187 264 [.ref r0, .int x1, .int x2, .int x3, .int x4, .int x5, w6] [] H Q else jm_w S 7 187 24 [.ref r0, .int x1, .int x2, .int x3, .int x4, .int x5, w6] [] H Q := (js1 at187_11 rfl rfl rfl).trans ((js1 at187_13 rfl rfl rfl).trans ((jsgR (H := H) at187_14 rv187g_49 rfl h0 h1 rfl).trans ((js1 at187_17 rfl rfl rfl).trans ((jsci at187_18 rfl rfl).trans ((js0 at187_19 rfl rfl rfl).trans ((jsial (H := H) at187_20 h3 h4 h2 rfl).trans (jsif (P := (jm_I H (jm_R H r0 22) (Int32.toNatClampNeg (x1 + (1 : Int32)))) ≤ x5) at187_21 rfl rfl)))))))
theorem at187_24 : jm_at 187 24 = some (.aload_n 0) := rfl
theorem at187_25 : jm_at 187 25 = some (.getfield 46) := rfl
theorem rv187g_46 : jm_rv 187 (.getfield 46) = (0, 12, 20, 0) := rfl
theorem at187_28 : jm_at 187 28 = some (.iload 5) := rfl
theorem at187_30 : jm_at 187 30 = some (.iaload) := rfl
theorem at187_31 : jm_at 187 31 = some (.istore 6) := rfl
theorem at187_33 : jm_at 187 33 = some (.aload_n 0) := rfl
theorem at187_34 : jm_at 187 34 = some (.getfield 43) := rfl
theorem rv187g_43 : jm_rv 187 (.getfield 43) = (0, 12, 19, 0) := rfl
theorem at187_37 : jm_at 187 37 = some (.iload 5) := rfl
theorem at187_39 : jm_at 187 39 = some (.iaload) := rfl
theorem u187_24 {S : Option (Nat × (Nat → Int32))} {H : jm_H} {Q : Option Value → jm_H → Prop} {r0 : Nat} {x1 x2 x3 x4 x5 : Int32} {w6 : Value} (h0 : jm_tg H r0 = 13) (h1 : ¬ jm_R H r0 20 = 0) (h2 : ¬ (x5 < 0 ∨ jm_ln H (jm_R H r0 20) ≤ Int32.toNatClampNeg x5)) (h3 : ¬ (jm_R H r0 20) = 1) (h4 : jm_tg H (jm_R H r0 20) = 100) (h5 : ¬ jm_R H r0 19 = 0) (h6 : ¬ (x5 < 0 ∨ jm_ln H (jm_R H r0 19) ≤ Int32.toNatClampNeg x5)) (h7 : ¬ (jm_R H r0 19) = 1) (h8 : jm_tg H (jm_R H r0 19) = 100) : jm_w S 7 187 24 [.ref r0, .int x1, .int x2, .int x3, .int x4, .int x5, w6] [] H Q = jm_w S 7 187 40 [.ref r0, .int x1, .int x2, .int x3, .int x4, .int x5, .int (jm_I H (jm_R H r0 20) (Int32.toNatClampNeg x5))] [.int (jm_I H (jm_R H r0 19) (Int32.toNatClampNeg x5))] H Q := (js1 at187_24 rfl rfl rfl).trans ((jsgR (H := H) at187_25 rv187g_46 rfl h0 h1 rfl).trans ((js1 at187_28 rfl rfl rfl).trans ((jsial (H := H) at187_30 h3 h4 h2 rfl).trans ((js1 at187_31 rfl rfl rfl).trans ((js1 at187_33 rfl rfl rfl).trans ((jsgR (H := H) at187_34 rv187g_43 rfl h0 h5 rfl).trans ((js1 at187_37 rfl rfl rfl).trans (jsial (H := H) at187_39 h7 h8 h6 rfl))))))))
theorem at187_40 : jm_at 187 40 = some (.tableswitch 175 0 8 #[52, 73, 93, 175, 175, 175, 175, 118, 145]) := rfl
theorem u187_40_0 {S : Option (Nat × (Nat → Int32))} {H : jm_H} {Q : Option Value → jm_H → Prop} {r0 : Nat} {x1 x2 x3 x4 x5 x6 : Int32} : jm_w S 7 187 40 [.ref r0, .int x1, .int x2, .int x3, .int x4, .int x5, .int x6] [.int 0] H Q = jm_w S 7 187 92 [.ref r0, .int x1, .int x2, .int x3, .int x4, .int x5, .int x6] [] H Q := js2 at187_40 rfl rfl
theorem u187_40_1 {S : Option (Nat × (Nat → Int32))} {H : jm_H} {Q : Option Value → jm_H → Prop} {r0 : Nat} {x1 x2 x3 x4 x5 x6 : Int32} : jm_w S 7 187 40 [.ref r0, .int x1, .int x2, .int x3, .int x4, .int x5, .int x6] [.int 1] H Q = jm_w S 7 187 113 [.ref r0, .int x1, .int x2, .int x3, .int x4, .int x5, .int x6] [] H Q := js2 at187_40 rfl rfl
theorem u187_40_2 {S : Option (Nat × (Nat → Int32))} {H : jm_H} {Q : Option Value → jm_H → Prop} {r0 : Nat} {x1 x2 x3 x4 x5 x6 : Int32} : jm_w S 7 187 40 [.ref r0, .int x1, .int x2, .int x3, .int x4, .int x5, .int x6] [.int 2] H Q = jm_w S 7 187 133 [.ref r0, .int x1, .int x2, .int x3, .int x4, .int x5, .int x6] [] H Q := js2 at187_40 rfl rfl
theorem u187_40_3 {S : Option (Nat × (Nat → Int32))} {H : jm_H} {Q : Option Value → jm_H → Prop} {r0 : Nat} {x1 x2 x3 x4 x5 x6 : Int32} : jm_w S 7 187 40 [.ref r0, .int x1, .int x2, .int x3, .int x4, .int x5, .int x6] [.int 3] H Q = jm_w S 7 187 215 [.ref r0, .int x1, .int x2, .int x3, .int x4, .int x5, .int x6] [] H Q := js2 at187_40 rfl rfl
theorem u187_40_4 {S : Option (Nat × (Nat → Int32))} {H : jm_H} {Q : Option Value → jm_H → Prop} {r0 : Nat} {x1 x2 x3 x4 x5 x6 : Int32} : jm_w S 7 187 40 [.ref r0, .int x1, .int x2, .int x3, .int x4, .int x5, .int x6] [.int 4] H Q = jm_w S 7 187 215 [.ref r0, .int x1, .int x2, .int x3, .int x4, .int x5, .int x6] [] H Q := js2 at187_40 rfl rfl
theorem u187_40_5 {S : Option (Nat × (Nat → Int32))} {H : jm_H} {Q : Option Value → jm_H → Prop} {r0 : Nat} {x1 x2 x3 x4 x5 x6 : Int32} : jm_w S 7 187 40 [.ref r0, .int x1, .int x2, .int x3, .int x4, .int x5, .int x6] [.int 5] H Q = jm_w S 7 187 215 [.ref r0, .int x1, .int x2, .int x3, .int x4, .int x5, .int x6] [] H Q := js2 at187_40 rfl rfl
theorem u187_40_6 {S : Option (Nat × (Nat → Int32))} {H : jm_H} {Q : Option Value → jm_H → Prop} {r0 : Nat} {x1 x2 x3 x4 x5 x6 : Int32} : jm_w S 7 187 40 [.ref r0, .int x1, .int x2, .int x3, .int x4, .int x5, .int x6] [.int 6] H Q = jm_w S 7 187 215 [.ref r0, .int x1, .int x2, .int x3, .int x4, .int x5, .int x6] [] H Q := js2 at187_40 rfl rfl
theorem u187_40_7 {S : Option (Nat × (Nat → Int32))} {H : jm_H} {Q : Option Value → jm_H → Prop} {r0 : Nat} {x1 x2 x3 x4 x5 x6 : Int32} : jm_w S 7 187 40 [.ref r0, .int x1, .int x2, .int x3, .int x4, .int x5, .int x6] [.int 7] H Q = jm_w S 7 187 158 [.ref r0, .int x1, .int x2, .int x3, .int x4, .int x5, .int x6] [] H Q := js2 at187_40 rfl rfl
theorem u187_40_8 {S : Option (Nat × (Nat → Int32))} {H : jm_H} {Q : Option Value → jm_H → Prop} {r0 : Nat} {x1 x2 x3 x4 x5 x6 : Int32} : jm_w S 7 187 40 [.ref r0, .int x1, .int x2, .int x3, .int x4, .int x5, .int x6] [.int 8] H Q = jm_w S 7 187 185 [.ref r0, .int x1, .int x2, .int x3, .int x4, .int x5, .int x6] [] H Q := js2 at187_40 rfl rfl
theorem u187_40_d {S : Option (Nat × (Nat → Int32))} {H : jm_H} {Q : Option Value → jm_H → Prop} {r0 : Nat} {x1 x2 x3 x4 x5 x6 p0 : Int32} (h : Int32.toInt p0 < 0 ∨ 8 < Int32.toInt p0) : jm_w S 7 187 40 [.ref r0, .int x1, .int x2, .int x3, .int x4, .int x5, .int x6] [.int p0] H Q = jm_w S 7 187 215 [.ref r0, .int x1, .int x2, .int x3, .int x4, .int x5, .int x6] [] H Q := js2 at187_40 rfl ((if_pos h).trans rfl)
theorem at187_92 : jm_at 187 92 = some (.aload_n 0) := rfl
theorem at187_93 : jm_at 187 93 = some (.getfield 79) := rfl
theorem rv187g_79 : jm_rv 187 (.getfield 79) = (0, 12, 37, 0) := rfl
theorem at187_96 : jm_at 187 96 = some (.iload 4) := rfl
theorem at187_98 : jm_at 187 98 = some (.aload_n 0) := rfl
theorem at187_99 : jm_at 187 99 = some (.iload_n 2) := rfl
theorem at187_100 : jm_at 187 100 = some (.iload_n 3) := rfl
theorem at187_101 : jm_at 187 101 = some (.iload 6) := rfl
theorem at187_103 : jm_at 187 103 = some (.invokevirtual 256) := rfl
theorem rv187i_256 : jm_rv 187 (.invokevirtual 256) = (2, 188, 0, 0) := rfl
theorem u187_92 {S : Option (Nat × (Nat → Int32))} {H : jm_H} {Q : Option Value → jm_H → Prop} {r0 : Nat} {x1 x2 x3 x4 x5 x6 : Int32} (h0 : jm_tg H r0 = 13) (h1 : ¬ jm_R H r0 37 = 0) : jm_w S 7 187 92 [.ref r0, .int x1, .int x2, .int x3, .int x4, .int x5, .int x6] [] H Q = jm_c S 188 [.ref r0, .int x2, .int x3, .int x6] H (fun v G => jm_w S 7 187 106 [.ref r0, .int x1, .int x2, .int x3, .int x4, .int x5, .int x6] (v.toList ++ [.int x4, .ref (jm_R H r0 37)]) G Q) := (js1 at187_92 rfl rfl rfl).trans ((jsgR (H := H) at187_93 rv187g_79 rfl h0 h1 rfl).trans ((js1 at187_96 rfl rfl rfl).trans ((js1 at187_98 rfl rfl rfl).trans ((js1 at187_99 rfl rfl rfl).trans ((js1 at187_100 rfl rfl rfl).trans ((js1 at187_101 rfl rfl rfl).trans (jscall (H := H) (as := [.ref r0, .int x2, .int x3, .int x6]) (q := [.int x4, .ref (jm_R H r0 37)]) at187_103 rfl rv187i_256 (jscutV rfl rfl rfl (Nat.le_of_ble_eq_true rfl) rfl h0) rfl (Nat.le_of_ble_eq_true rfl) rfl rfl)))))))
theorem at187_106 : jm_at 187 106 = some (.iastore) := rfl
theorem at187_107 : jm_at 187 107 = some (.iinc 4 1) := rfl
theorem at187_110 : jm_at 187 110 = some (.goto 148) := rfl
theorem u187_106 {S : Option (Nat × (Nat → Int32))} {H : jm_H} {Q : Option Value → jm_H → Prop} {r0 o0 : Nat} {x1 x2 x3 x4 x5 x6 p1 p2 : Int32} (h0 : ¬ (p1 < 0 ∨ jm_ln H o0 ≤ Int32.toNatClampNeg p1)) (h1 : jm_tg H o0 = 100) : jm_w S 7 187 106 [.ref r0, .int x1, .int x2, .int x3, .int x4, .int x5, .int x6] [.int p2, .int p1, .ref o0] H Q = jm_w S 7 187 258 [.ref r0, .int x1, .int x2, .int x3, .int (x4 + 1), .int x5, .int x6] [] (jm_pI H o0 (Int32.toNatClampNeg p1) p2) Q := (jsias (H := H) at187_106 h1 h0 rfl).trans ((jsinc at187_107 rfl rfl rfl).trans (js2 at187_110 rfl rfl))
theorem at187_113 : jm_at 187 113 = some (.aload_n 0) := rfl
theorem at187_114 : jm_at 187 114 = some (.getfield 79) := rfl
theorem at187_117 : jm_at 187 117 = some (.iload 4) := rfl
theorem at187_119 : jm_at 187 119 = some (.aload_n 0) := rfl
theorem at187_120 : jm_at 187 120 = some (.getfield 55) := rfl
theorem rv187g_55 : jm_rv 187 (.getfield 55) = (0, 12, 24, 0) := rfl
theorem at187_123 : jm_at 187 123 = some (.iload 6) := rfl
theorem at187_125 : jm_at 187 125 = some (.iaload) := rfl
theorem at187_126 : jm_at 187 126 = some (.iastore) := rfl
theorem at187_127 : jm_at 187 127 = some (.iinc 4 1) := rfl
theorem at187_130 : jm_at 187 130 = some (.goto 128) := rfl
theorem u187_113 {S : Option (Nat × (Nat → Int32))} {H : jm_H} {Q : Option Value → jm_H → Prop} {r0 : Nat} {x1 x2 x3 x4 x5 x6 : Int32} (h0 : jm_tg H r0 = 13) (h1 : ¬ jm_R H r0 37 = 0) (h2 : ¬ jm_R H r0 24 = 0) (h3 : ¬ (x6 < 0 ∨ jm_ln H (jm_R H r0 24) ≤ Int32.toNatClampNeg x6)) (h4 : ¬ (jm_R H r0 24) = 1) (h5 : jm_tg H (jm_R H r0 24) = 100) (h6 : ¬ (x4 < 0 ∨ jm_ln H (jm_R H r0 37) ≤ Int32.toNatClampNeg x4)) (h7 : jm_tg H (jm_R H r0 37) = 100) : jm_w S 7 187 113 [.ref r0, .int x1, .int x2, .int x3, .int x4, .int x5, .int x6] [] H Q = jm_w S 7 187 258 [.ref r0, .int x1, .int x2, .int x3, .int (x4 + 1), .int x5, .int x6] [] (jm_pI H (jm_R H r0 37) (Int32.toNatClampNeg x4) (jm_I H (jm_R H r0 24) (Int32.toNatClampNeg x6))) Q := (js1 at187_113 rfl rfl rfl).trans ((jsgR (H := H) at187_114 rv187g_79 rfl h0 h1 rfl).trans ((js1 at187_117 rfl rfl rfl).trans ((js1 at187_119 rfl rfl rfl).trans ((jsgR (H := H) at187_120 rv187g_55 rfl h0 h2 rfl).trans ((js1 at187_123 rfl rfl rfl).trans ((jsial (H := H) at187_125 h4 h5 h3 rfl).trans ((jsias (H := H) at187_126 h7 h6 rfl).trans ((jsinc at187_127 rfl rfl rfl).trans (js2 at187_130 rfl rfl)))))))))
theorem at187_133 : jm_at 187 133 = some (.aload_n 0) := rfl
theorem at187_134 : jm_at 187 134 = some (.getfield 79) := rfl
theorem at187_137 : jm_at 187 137 = some (.iload 4) := rfl
theorem at187_139 : jm_at 187 139 = some (.iconst 1) := rfl
theorem at187_140 : jm_at 187 140 = some (.isub) := rfl
theorem at187_141 : jm_at 187 141 = some (.iload_n 2) := rfl
theorem at187_142 : jm_at 187 142 = some (.aload_n 0) := rfl
theorem at187_143 : jm_at 187 143 = some (.getfield 79) := rfl
theorem at187_146 : jm_at 187 146 = some (.iload 4) := rfl
theorem at187_148 : jm_at 187 148 = some (.iconst 1) := rfl
theorem at187_149 : jm_at 187 149 = some (.isub) := rfl
theorem at187_150 : jm_at 187 150 = some (.iaload) := rfl
theorem at187_151 : jm_at 187 151 = some (.invokestatic 259) := rfl
theorem rv187i_259 : jm_rv 187 (.invokestatic 259) = (1, 194, 0, 0) := rfl
theorem u187_133 {S : Option (Nat × (Nat → Int32))} {H : jm_H} {Q : Option Value → jm_H → Prop} {r0 : Nat} {x1 x2 x3 x4 x5 x6 : Int32} (h0 : jm_tg H r0 = 13) (h1 : ¬ jm_R H r0 37 = 0) (h2 : ¬ ((x4 - (1 : Int32)) < 0 ∨ jm_ln H (jm_R H r0 37) ≤ Int32.toNatClampNeg (x4 - (1 : Int32)))) (h3 : ¬ (jm_R H r0 37) = 1) (h4 : jm_tg H (jm_R H r0 37) = 100) : jm_w S 7 187 133 [.ref r0, .int x1, .int x2, .int x3, .int x4, .int x5, .int x6] [] H Q = jm_c S 194 [.int x2, .int (jm_I H (jm_R H r0 37) (Int32.toNatClampNeg (x4 - (1 : Int32))))] H (fun v G => jm_w S 7 187 154 [.ref r0, .int x1, .int x2, .int x3, .int x4, .int x5, .int x6] (v.toList ++ [.int (x4 - (1 : Int32)), .ref (jm_R H r0 37)]) G Q) := (js1 at187_133 rfl rfl rfl).trans ((jsgR (H := H) at187_134 rv187g_79 rfl h0 h1 rfl).trans ((js1 at187_137 rfl rfl rfl).trans ((jsci at187_139 rfl rfl).trans ((js0 at187_140 rfl rfl rfl).trans ((js1 at187_141 rfl rfl rfl).trans ((js1 at187_142 rfl rfl rfl).trans ((jsgR (H := H) at187_143 rv187g_79 rfl h0 h1 rfl).trans ((js1 at187_146 rfl rfl rfl).trans ((jsci at187_148 rfl rfl).trans ((js0 at187_149 rfl rfl rfl).trans ((jsial (H := H) at187_150 h3 h4 h2 rfl).trans (jscall (H := H) (as := [.int x2, .int (jm_I H (jm_R H r0 37) (Int32.toNatClampNeg (x4 - (1 : Int32))))]) (q := [.int (x4 - (1 : Int32)), .ref (jm_R H r0 37)]) at187_151 rfl rv187i_259 (jscut rfl rfl rfl (Nat.le_of_ble_eq_true rfl)) rfl (Nat.le_of_ble_eq_true rfl) rfl rfl))))))))))))
theorem at187_154 : jm_at 187 154 = some (.iastore) := rfl
theorem at187_155 : jm_at 187 155 = some (.goto 103) := rfl
theorem u187_154 {S : Option (Nat × (Nat → Int32))} {H : jm_H} {Q : Option Value → jm_H → Prop} {r0 o0 : Nat} {x1 x2 x3 x4 x5 x6 p1 p2 : Int32} (h0 : ¬ (p1 < 0 ∨ jm_ln H o0 ≤ Int32.toNatClampNeg p1)) (h1 : jm_tg H o0 = 100) : jm_w S 7 187 154 [.ref r0, .int x1, .int x2, .int x3, .int x4, .int x5, .int x6] [.int p2, .int p1, .ref o0] H Q = jm_w S 7 187 258 [.ref r0, .int x1, .int x2, .int x3, .int x4, .int x5, .int x6] [] (jm_pI H o0 (Int32.toNatClampNeg p1) p2) Q := (jsias (H := H) at187_154 h1 h0 rfl).trans (js2 at187_155 rfl rfl)
theorem at187_158 : jm_at 187 158 = some (.aload_n 0) := rfl
theorem at187_159 : jm_at 187 159 = some (.getfield 79) := rfl
theorem at187_162 : jm_at 187 162 = some (.iload 4) := rfl
theorem at187_164 : jm_at 187 164 = some (.iconst 1) := rfl
theorem at187_165 : jm_at 187 165 = some (.isub) := rfl
theorem at187_166 : jm_at 187 166 = some (.aload_n 0) := rfl
theorem at187_167 : jm_at 187 167 = some (.iload_n 2) := rfl
theorem at187_168 : jm_at 187 168 = some (.iload_n 3) := rfl
theorem at187_169 : jm_at 187 169 = some (.aload_n 0) := rfl
theorem at187_170 : jm_at 187 170 = some (.getfield 79) := rfl
theorem at187_173 : jm_at 187 173 = some (.iload 4) := rfl
theorem at187_175 : jm_at 187 175 = some (.iconst 1) := rfl
theorem at187_176 : jm_at 187 176 = some (.isub) := rfl
theorem at187_177 : jm_at 187 177 = some (.iaload) := rfl
theorem at187_178 : jm_at 187 178 = some (.invokevirtual 262) := rfl
theorem rv187i_262 : jm_rv 187 (.invokevirtual 262) = (2, 201, 0, 0) := rfl
theorem u187_158 {S : Option (Nat × (Nat → Int32))} {H : jm_H} {Q : Option Value → jm_H → Prop} {r0 : Nat} {x1 x2 x3 x4 x5 x6 : Int32} (h0 : jm_tg H r0 = 13) (h1 : ¬ jm_R H r0 37 = 0) (h2 : ¬ ((x4 - (1 : Int32)) < 0 ∨ jm_ln H (jm_R H r0 37) ≤ Int32.toNatClampNeg (x4 - (1 : Int32)))) (h3 : ¬ (jm_R H r0 37) = 1) (h4 : jm_tg H (jm_R H r0 37) = 100) : jm_w S 7 187 158 [.ref r0, .int x1, .int x2, .int x3, .int x4, .int x5, .int x6] [] H Q = jm_c S 201 [.ref r0, .int x2, .int x3, .int (jm_I H (jm_R H r0 37) (Int32.toNatClampNeg (x4 - (1 : Int32))))] H (fun v G => jm_w S 7 187 181 [.ref r0, .int x1, .int x2, .int x3, .int x4, .int x5, .int x6] (v.toList ++ [.int (x4 - (1 : Int32)), .ref (jm_R H r0 37)]) G Q) := (js1 at187_158 rfl rfl rfl).trans ((jsgR (H := H) at187_159 rv187g_79 rfl h0 h1 rfl).trans ((js1 at187_162 rfl rfl rfl).trans ((jsci at187_164 rfl rfl).trans ((js0 at187_165 rfl rfl rfl).trans ((js1 at187_166 rfl rfl rfl).trans ((js1 at187_167 rfl rfl rfl).trans ((js1 at187_168 rfl rfl rfl).trans ((js1 at187_169 rfl rfl rfl).trans ((jsgR (H := H) at187_170 rv187g_79 rfl h0 h1 rfl).trans ((js1 at187_173 rfl rfl rfl).trans ((jsci at187_175 rfl rfl).trans ((js0 at187_176 rfl rfl rfl).trans ((jsial (H := H) at187_177 h3 h4 h2 rfl).trans (jscall (H := H) (as := [.ref r0, .int x2, .int x3, .int (jm_I H (jm_R H r0 37) (Int32.toNatClampNeg (x4 - (1 : Int32))))]) (q := [.int (x4 - (1 : Int32)), .ref (jm_R H r0 37)]) at187_178 rfl rv187i_262 (jscutV rfl rfl rfl (Nat.le_of_ble_eq_true rfl) rfl h0) rfl (Nat.le_of_ble_eq_true rfl) rfl rfl))))))))))))))
theorem at187_181 : jm_at 187 181 = some (.iastore) := rfl
theorem at187_182 : jm_at 187 182 = some (.goto 76) := rfl
theorem u187_181 {S : Option (Nat × (Nat → Int32))} {H : jm_H} {Q : Option Value → jm_H → Prop} {r0 o0 : Nat} {x1 x2 x3 x4 x5 x6 p1 p2 : Int32} (h0 : ¬ (p1 < 0 ∨ jm_ln H o0 ≤ Int32.toNatClampNeg p1)) (h1 : jm_tg H o0 = 100) : jm_w S 7 187 181 [.ref r0, .int x1, .int x2, .int x3, .int x4, .int x5, .int x6] [.int p2, .int p1, .ref o0] H Q = jm_w S 7 187 258 [.ref r0, .int x1, .int x2, .int x3, .int x4, .int x5, .int x6] [] (jm_pI H o0 (Int32.toNatClampNeg p1) p2) Q := (jsias (H := H) at187_181 h1 h0 rfl).trans (js2 at187_182 rfl rfl)
theorem at187_185 : jm_at 187 185 = some (.iload 4) := rfl
theorem at187_187 : jm_at 187 187 = some (.iload 6) := rfl
theorem at187_189 : jm_at 187 189 = some (.isub) := rfl
theorem at187_190 : jm_at 187 190 = some (.istore 4) := rfl
theorem at187_192 : jm_at 187 192 = some (.aload_n 0) := rfl
theorem at187_193 : jm_at 187 193 = some (.getfield 79) := rfl
theorem at187_196 : jm_at 187 196 = some (.iload 4) := rfl
theorem at187_198 : jm_at 187 198 = some (.aload_n 0) := rfl
theorem at187_199 : jm_at 187 199 = some (.iload_n 2) := rfl
theorem at187_200 : jm_at 187 200 = some (.iload_n 3) := rfl
theorem at187_201 : jm_at 187 201 = some (.iload 4) := rfl
theorem at187_203 : jm_at 187 203 = some (.iload 6) := rfl
theorem at187_205 : jm_at 187 205 = some (.invokevirtual 265) := rfl
theorem rv187i_265 : jm_rv 187 (.invokevirtual 265) = (2, 202, 0, 0) := rfl
theorem u187_185 {S : Option (Nat × (Nat → Int32))} {H : jm_H} {Q : Option Value → jm_H → Prop} {r0 : Nat} {x1 x2 x3 x4 x5 x6 : Int32} (h0 : jm_tg H r0 = 13) (h1 : ¬ jm_R H r0 37 = 0) : jm_w S 7 187 185 [.ref r0, .int x1, .int x2, .int x3, .int x4, .int x5, .int x6] [] H Q = jm_c S 202 [.ref r0, .int x2, .int x3, .int (x4 - x6), .int x6] H (fun v G => jm_w S 7 187 208 [.ref r0, .int x1, .int x2, .int x3, .int (x4 - x6), .int x5, .int x6] (v.toList ++ [.int (x4 - x6), .ref (jm_R H r0 37)]) G Q) := (js1 at187_185 rfl rfl rfl).trans ((js1 at187_187 rfl rfl rfl).trans ((js0 at187_189 rfl rfl rfl).trans ((js1 at187_190 rfl rfl rfl).trans ((js1 at187_192 rfl rfl rfl).trans ((jsgR (H := H) at187_193 rv187g_79 rfl h0 h1 rfl).trans ((js1 at187_196 rfl rfl rfl).trans ((js1 at187_198 rfl rfl rfl).trans ((js1 at187_199 rfl rfl rfl).trans ((js1 at187_200 rfl rfl rfl).trans ((js1 at187_201 rfl rfl rfl).trans ((js1 at187_203 rfl rfl rfl).trans (jscall (H := H) (as := [.ref r0, .int x2, .int x3, .int (x4 - x6), .int x6]) (q := [.int (x4 - x6), .ref (jm_R H r0 37)]) at187_205 rfl rv187i_265 (jscutV rfl rfl rfl (Nat.le_of_ble_eq_true rfl) rfl h0) rfl (Nat.le_of_ble_eq_true rfl) rfl rfl))))))))))))
theorem at187_208 : jm_at 187 208 = some (.iastore) := rfl
theorem at187_209 : jm_at 187 209 = some (.iinc 4 1) := rfl
theorem at187_212 : jm_at 187 212 = some (.goto 46) := rfl
theorem u187_208 {S : Option (Nat × (Nat → Int32))} {H : jm_H} {Q : Option Value → jm_H → Prop} {r0 o0 : Nat} {x1 x2 x3 x4 x5 x6 p1 p2 : Int32} (h0 : ¬ (p1 < 0 ∨ jm_ln H o0 ≤ Int32.toNatClampNeg p1)) (h1 : jm_tg H o0 = 100) : jm_w S 7 187 208 [.ref r0, .int x1, .int x2, .int x3, .int x4, .int x5, .int x6] [.int p2, .int p1, .ref o0] H Q = jm_w S 7 187 258 [.ref r0, .int x1, .int x2, .int x3, .int (x4 + 1), .int x5, .int x6] [] (jm_pI H o0 (Int32.toNatClampNeg p1) p2) Q := (jsias (H := H) at187_208 h1 h0 rfl).trans ((jsinc at187_209 rfl rfl rfl).trans (js2 at187_212 rfl rfl))
theorem at187_215 : jm_at 187 215 = some (.iinc 4 (-1)) := rfl
theorem at187_218 : jm_at 187 218 = some (.aload_n 0) := rfl
theorem at187_219 : jm_at 187 219 = some (.getfield 79) := rfl
theorem at187_222 : jm_at 187 222 = some (.iload 4) := rfl
theorem at187_224 : jm_at 187 224 = some (.iconst 1) := rfl
theorem at187_225 : jm_at 187 225 = some (.isub) := rfl
theorem at187_226 : jm_at 187 226 = some (.aload_n 0) := rfl
theorem at187_227 : jm_at 187 227 = some (.iload_n 2) := rfl
theorem at187_228 : jm_at 187 228 = some (.iload_n 3) := rfl
theorem at187_229 : jm_at 187 229 = some (.aload_n 0) := rfl
theorem at187_230 : jm_at 187 230 = some (.getfield 79) := rfl
theorem at187_233 : jm_at 187 233 = some (.iload 4) := rfl
theorem at187_235 : jm_at 187 235 = some (.iconst 1) := rfl
theorem at187_236 : jm_at 187 236 = some (.isub) := rfl
theorem at187_237 : jm_at 187 237 = some (.iaload) := rfl
theorem at187_238 : jm_at 187 238 = some (.aload_n 0) := rfl
theorem at187_239 : jm_at 187 239 = some (.getfield 79) := rfl
theorem at187_242 : jm_at 187 242 = some (.iload 4) := rfl
theorem at187_244 : jm_at 187 244 = some (.iaload) := rfl
theorem at187_245 : jm_at 187 245 = some (.aload_n 0) := rfl
theorem at187_246 : jm_at 187 246 = some (.getfield 43) := rfl
theorem at187_249 : jm_at 187 249 = some (.iload 5) := rfl
theorem at187_251 : jm_at 187 251 = some (.iaload) := rfl
theorem at187_252 : jm_at 187 252 = some (.iconst 3) := rfl
theorem at187_253 : jm_at 187 253 = some (.isub) := rfl
theorem at187_254 : jm_at 187 254 = some (.invokevirtual 269) := rfl
theorem rv187i_269 : jm_rv 187 (.invokevirtual 269) = (2, 209, 0, 0) := rfl
theorem u187_215 {S : Option (Nat × (Nat → Int32))} {H : jm_H} {Q : Option Value → jm_H → Prop} {r0 : Nat} {x1 x2 x3 x4 x5 x6 : Int32} (h0 : jm_tg H r0 = 13) (h1 : ¬ jm_R H r0 37 = 0) (h2 : ¬ (((x4 + (-1)) - (1 : Int32)) < 0 ∨ jm_ln H (jm_R H r0 37) ≤ Int32.toNatClampNeg ((x4 + (-1)) - (1 : Int32)))) (h3 : ¬ (jm_R H r0 37) = 1) (h4 : jm_tg H (jm_R H r0 37) = 100) (h5 : ¬ ((x4 + (-1)) < 0 ∨ jm_ln H (jm_R H r0 37) ≤ Int32.toNatClampNeg (x4 + (-1)))) (h6 : ¬ jm_R H r0 19 = 0) (h7 : ¬ (x5 < 0 ∨ jm_ln H (jm_R H r0 19) ≤ Int32.toNatClampNeg x5)) (h8 : ¬ (jm_R H r0 19) = 1) (h9 : jm_tg H (jm_R H r0 19) = 100) : jm_w S 7 187 215 [.ref r0, .int x1, .int x2, .int x3, .int x4, .int x5, .int x6] [] H Q = jm_c S 209 [.ref r0, .int x2, .int x3, .int (jm_I H (jm_R H r0 37) (Int32.toNatClampNeg ((x4 + (-1)) - (1 : Int32)))), .int (jm_I H (jm_R H r0 37) (Int32.toNatClampNeg (x4 + (-1)))), .int ((jm_I H (jm_R H r0 19) (Int32.toNatClampNeg x5)) - (3 : Int32))] H (fun v G => jm_w S 7 187 257 [.ref r0, .int x1, .int x2, .int x3, .int (x4 + (-1)), .int x5, .int x6] (v.toList ++ [.int ((x4 + (-1)) - (1 : Int32)), .ref (jm_R H r0 37)]) G Q) := (jsinc at187_215 rfl rfl rfl).trans ((js1 at187_218 rfl rfl rfl).trans ((jsgR (H := H) at187_219 rv187g_79 rfl h0 h1 rfl).trans ((js1 at187_222 rfl rfl rfl).trans ((jsci at187_224 rfl rfl).trans ((js0 at187_225 rfl rfl rfl).trans ((js1 at187_226 rfl rfl rfl).trans ((js1 at187_227 rfl rfl rfl).trans ((js1 at187_228 rfl rfl rfl).trans ((js1 at187_229 rfl rfl rfl).trans ((jsgR (H := H) at187_230 rv187g_79 rfl h0 h1 rfl).trans ((js1 at187_233 rfl rfl rfl).trans ((jsci at187_235 rfl rfl).trans ((js0 at187_236 rfl rfl rfl).trans ((jsial (H := H) at187_237 h3 h4 h2 rfl).trans ((js1 at187_238 rfl rfl rfl).trans ((jsgR (H := H) at187_239 rv187g_79 rfl h0 h1 rfl).trans ((js1 at187_242 rfl rfl rfl).trans ((jsial (H := H) at187_244 h3 h4 h5 rfl).trans ((js1 at187_245 rfl rfl rfl).trans ((jsgR (H := H) at187_246 rv187g_43 rfl h0 h6 rfl).trans ((js1 at187_249 rfl rfl rfl).trans ((jsial (H := H) at187_251 h8 h9 h7 rfl).trans ((jsci at187_252 rfl rfl).trans ((js0 at187_253 rfl rfl rfl).trans (jscall (H := H) (as := [.ref r0, .int x2, .int x3, .int (jm_I H (jm_R H r0 37) (Int32.toNatClampNeg ((x4 + (-1)) - (1 : Int32)))), .int (jm_I H (jm_R H r0 37) (Int32.toNatClampNeg (x4 + (-1)))), .int ((jm_I H (jm_R H r0 19) (Int32.toNatClampNeg x5)) - (3 : Int32))]) (q := [.int ((x4 + (-1)) - (1 : Int32)), .ref (jm_R H r0 37)]) at187_254 rfl rv187i_269 (jscutV rfl rfl rfl (Nat.le_of_ble_eq_true rfl) rfl h0) rfl (Nat.le_of_ble_eq_true rfl) rfl rfl)))))))))))))))))))))))))
theorem at187_257 : jm_at 187 257 = some (.iastore) := rfl
theorem u187_257 {S : Option (Nat × (Nat → Int32))} {H : jm_H} {Q : Option Value → jm_H → Prop} {r0 o0 : Nat} {x1 x2 x3 x4 x5 x6 p1 p2 : Int32} (h0 : ¬ (p1 < 0 ∨ jm_ln H o0 ≤ Int32.toNatClampNeg p1)) (h1 : jm_tg H o0 = 100) : jm_w S 7 187 257 [.ref r0, .int x1, .int x2, .int x3, .int x4, .int x5, .int x6] [.int p2, .int p1, .ref o0] H Q = jm_w S 7 187 258 [.ref r0, .int x1, .int x2, .int x3, .int x4, .int x5, .int x6] [] (jm_pI H o0 (Int32.toNatClampNeg p1) p2) Q := jsias (H := H) at187_257 h1 h0 rfl
theorem at187_258 : jm_at 187 258 = some (.iinc 5 1) := rfl
theorem at187_261 : jm_at 187 261 = some (.goto (-250)) := rfl
theorem u187_258 {S : Option (Nat × (Nat → Int32))} {H : jm_H} {Q : Option Value → jm_H → Prop} {r0 : Nat} {x1 x2 x3 x4 x5 x6 : Int32} : jm_w S 7 187 258 [.ref r0, .int x1, .int x2, .int x3, .int x4, .int x5, .int x6] [] H Q = jm_w S 7 187 11 [.ref r0, .int x1, .int x2, .int x3, .int x4, .int (x5 + 1), .int x6] [] H Q := (jsinc at187_258 rfl rfl rfl).trans (js2 at187_261 rfl rfl)
theorem at187_264 : jm_at 187 264 = some (.aload_n 0) := rfl
theorem at187_265 : jm_at 187 265 = some (.getfield 79) := rfl
theorem at187_268 : jm_at 187 268 = some (.iconst 0) := rfl
theorem at187_269 : jm_at 187 269 = some (.iaload) := rfl
theorem at187_270 : jm_at 187 270 = some (.ireturn) := rfl
theorem u187_264 {S : Option (Nat × (Nat → Int32))} {H : jm_H} {Q : Option Value → jm_H → Prop} {r0 : Nat} {x1 x2 x3 x4 x5 : Int32} {w6 : Value} (h0 : jm_tg H r0 = 13) (h1 : ¬ jm_R H r0 37 = 0) (h2 : ¬ ((0 : Int32) < 0 ∨ jm_ln H (jm_R H r0 37) ≤ Int32.toNatClampNeg (0 : Int32))) (h3 : ¬ (jm_R H r0 37) = 1) (h4 : jm_tg H (jm_R H r0 37) = 100) : jm_w S 7 187 264 [.ref r0, .int x1, .int x2, .int x3, .int x4, .int x5, w6] [] H Q = Q (some (.int (jm_I H (jm_R H r0 37) (Int32.toNatClampNeg (0 : Int32))))) H := (js1 at187_264 rfl rfl rfl).trans ((jsgR (H := H) at187_265 rv187g_79 rfl h0 h1 rfl).trans ((jsci at187_268 rfl rfl).trans ((jsial (H := H) at187_269 h3 h4 h2 rfl).trans (jsret_i at187_270 rfl))))
theorem en187 {S : Option (Nat × (Nat → Int32))} {H : jm_H} {Q : Option Value → jm_H → Prop} {r0 : Nat} {x1 x2 x3 : Int32} : jm_c S 187 [.ref r0, .int x1, .int x2, .int x3] H Q = jm_w S 7 187 0 [.ref r0, .int x1, .int x2, .int x3, .null, .null, .null] [] H Q := rfl
theorem at188_0 : jm_at 188 0 = some (.aload_n 0) := rfl
theorem at188_1 : jm_at 188 1 = some (.iload_n 1) := rfl
theorem at188_2 : jm_at 188 2 = some (.iload_n 2) := rfl
theorem at188_3 : jm_at 188 3 = some (.iload_n 3) := rfl
theorem at188_4 : jm_at 188 4 = some (.i2l) := rfl
theorem at188_5 : jm_at 188 5 = some (.iconst 0) := rfl
theorem at188_6 : jm_at 188 6 = some (.lconst 1) := rfl
theorem at188_7 : jm_at 188 7 = some (.iconst 0) := rfl
theorem at188_8 : jm_at 188 8 = some (.iconst 1) := rfl
theorem at188_9 : jm_at 188 9 = some (.invokevirtual 389) := rfl
theorem rv188i_389 : jm_rv 188 (.invokevirtual 389) = (2, 189, 0, 0) := rfl
theorem u188_0 {S : Option (Nat × (Nat → Int32))} {H : jm_H} {Q : Option Value → jm_H → Prop} {r0 : Nat} {x1 x2 x3 : Int32} (h0 : jm_tg H r0 = 13) : jm_w S 6 188 0 [.ref r0, .int x1, .int x2, .int x3] [] H Q = jm_c S 189 [.ref r0, .int x1, .int x2, .long (Int32.toInt64 x3), .int (0 : Int32), .long (1 : Int64), .int (0 : Int32), .int (1 : Int32)] H (fun v G => jm_w S 6 188 12 [.ref r0, .int x1, .int x2, .int x3] (v.toList ++ []) G Q) := (js1 at188_0 rfl rfl rfl).trans ((js1 at188_1 rfl rfl rfl).trans ((js1 at188_2 rfl rfl rfl).trans ((js1 at188_3 rfl rfl rfl).trans ((js0 at188_4 rfl rfl rfl).trans ((jsci at188_5 rfl rfl).trans ((jscl at188_6 rfl rfl).trans ((jsci at188_7 rfl rfl).trans ((jsci at188_8 rfl rfl).trans (jscall (H := H) (as := [.ref r0, .int x1, .int x2, .long (Int32.toInt64 x3), .int (0 : Int32), .long (1 : Int64), .int (0 : Int32), .int (1 : Int32)]) (q := []) at188_9 rfl rv188i_389 (jscutV rfl rfl rfl (Nat.le_of_ble_eq_true rfl) rfl h0) rfl (Nat.le_of_ble_eq_true rfl) rfl rfl)))))))))
theorem at188_12 : jm_at 188 12 = some (.ireturn) := rfl
theorem u188_12 {S : Option (Nat × (Nat → Int32))} {H : jm_H} {Q : Option Value → jm_H → Prop} {r0 : Nat} {x1 x2 x3 p0 : Int32} : jm_w S 6 188 12 [.ref r0, .int x1, .int x2, .int x3] [.int p0] H Q = Q (some (.int p0)) H := jsret_i at188_12 rfl
theorem en188 {S : Option (Nat × (Nat → Int32))} {H : jm_H} {Q : Option Value → jm_H → Prop} {r0 : Nat} {x1 x2 x3 : Int32} : jm_c S 188 [.ref r0, .int x1, .int x2, .int x3] H Q = jm_w S 6 188 0 [.ref r0, .int x1, .int x2, .int x3] [] H Q := rfl
theorem at189_0 : jm_at 189 0 = some (.aload_n 0) := rfl
theorem at189_1 : jm_at 189 1 = some (.iconst 0) := rfl
theorem at189_2 : jm_at 189 2 = some (.putfield 380) := rfl
theorem rv189p_380 : jm_rv 189 (.putfield 380) = (0, 12, 58, 0) := rfl
theorem at189_5 : jm_at 189 5 = some (.lload_n 3) := rfl
theorem at189_6 : jm_at 189 6 = some (.lconst 0) := rfl
theorem at189_7 : jm_at 189 7 = some (.lcmp) := rfl
theorem at189_8 : jm_at 189 8 = some (.ifCond .ne 5) := rfl
theorem u189_0 {S : Option (Nat × (Nat → Int32))} {H : jm_H} {Q : Option Value → jm_H → Prop} {r0 : Nat} {x1 x2 x5 x8 x9 : Int32} {y3 y6 : Int64} (h0 : jm_tg H r0 = 13) : jm_w S 5 189 0 [.ref r0, .int x1, .int x2, .long y3, .null, .int x5, .long y6, .null, .int x8, .int x9] [] H Q = if ¬ (lg_cmp y3 (0 : Int64)) = 0 then jm_w S 5 189 13 [.ref r0, .int x1, .int x2, .long y3, .null, .int x5, .long y6, .null, .int x8, .int x9] [] (jm_pI H r0 58 (0 : Int32)) Q else jm_w S 5 189 11 [.ref r0, .int x1, .int x2, .long y3, .null, .int x5, .long y6, .null, .int x8, .int x9] [] (jm_pI H r0 58 (0 : Int32)) Q := (js1 at189_0 rfl rfl rfl).trans ((jsci at189_1 rfl rfl).trans ((jspI (H := H) at189_2 rv189p_380 rfl h0 rfl).trans ((js1 at189_5 rfl rfl rfl).trans ((jscl at189_6 rfl rfl).trans ((js0 at189_7 rfl rfl rfl).trans (jsif (P := ¬ (lg_cmp y3 (0 : Int64)) = 0) at189_8 rfl rfl))))))
theorem at189_11 : jm_at 189 11 = some (.iconst 0) := rfl
theorem at189_12 : jm_at 189 12 = some (.ireturn) := rfl
theorem u189_11 {S : Option (Nat × (Nat → Int32))} {H : jm_H} {Q : Option Value → jm_H → Prop} {r0 : Nat} {x1 x2 x5 x8 x9 : Int32} {y3 y6 : Int64} : jm_w S 5 189 11 [.ref r0, .int x1, .int x2, .long y3, .null, .int x5, .long y6, .null, .int x8, .int x9] [] H Q = Q (some (.int (0 : Int32))) H := (jsci at189_11 rfl rfl).trans (jsret_i at189_12 rfl)
theorem at189_13 : jm_at 189 13 = some (.aload_n 0) := rfl
theorem at189_14 : jm_at 189 14 = some (.iconst 1) := rfl
theorem at189_15 : jm_at 189 15 = some (.putfield 358) := rfl
theorem rv189p_358 : jm_rv 189 (.putfield 358) = (0, 12, 53, 0) := rfl
theorem at189_18 : jm_at 189 18 = some (.aload_n 0) := rfl
theorem at189_19 : jm_at 189 19 = some (.lload_n 3) := rfl
theorem at189_20 : jm_at 189 20 = some (.putfield 361) := rfl
theorem rv189p_361 : jm_rv 189 (.putfield 361) = (0, 12, 54, 0) := rfl
theorem at189_23 : jm_at 189 23 = some (.aload_n 0) := rfl
theorem at189_24 : jm_at 189 24 = some (.iload 5) := rfl
theorem at189_26 : jm_at 189 26 = some (.putfield 365) := rfl
theorem rv189p_365 : jm_rv 189 (.putfield 365) = (0, 12, 55, 0) := rfl
theorem at189_29 : jm_at 189 29 = some (.aload_n 0) := rfl
theorem at189_30 : jm_at 189 30 = some (.lload 6) := rfl
theorem at189_32 : jm_at 189 32 = some (.putfield 368) := rfl
theorem rv189p_368 : jm_rv 189 (.putfield 368) = (0, 12, 56, 0) := rfl
theorem at189_35 : jm_at 189 35 = some (.aload_n 0) := rfl
theorem at189_36 : jm_at 189 36 = some (.iload 8) := rfl
theorem at189_38 : jm_at 189 38 = some (.putfield 371) := rfl
theorem rv189p_371 : jm_rv 189 (.putfield 371) = (0, 12, 57, 0) := rfl
theorem at189_41 : jm_at 189 41 = some (.aload_n 0) := rfl
theorem at189_42 : jm_at 189 42 = some (.iload_n 1) := rfl
theorem at189_43 : jm_at 189 43 = some (.aload_n 0) := rfl
theorem at189_44 : jm_at 189 44 = some (.iload_n 1) := rfl
theorem at189_45 : jm_at 189 45 = some (.iload_n 2) := rfl
theorem at189_46 : jm_at 189 46 = some (.invokevirtual 383) := rfl
theorem rv189i_383 : jm_rv 189 (.invokevirtual 383) = (2, 190, 0, 0) := rfl
theorem u189_13 {S : Option (Nat × (Nat → Int32))} {H : jm_H} {Q : Option Value → jm_H → Prop} {r0 : Nat} {x1 x2 x5 x8 x9 : Int32} {y3 y6 : Int64} (h0 : jm_tg H r0 = 13) : jm_w S 5 189 13 [.ref r0, .int x1, .int x2, .long y3, .null, .int x5, .long y6, .null, .int x8, .int x9] [] H Q = jm_c S 190 [.ref r0, .int x1, .int x2] (jm_pI (jm_pL (jm_pI (jm_pL (jm_pI H r0 53 (1 : Int32)) r0 54 y3) r0 55 x5) r0 56 y6) r0 57 x8) (fun v G => jm_w S 5 189 49 [.ref r0, .int x1, .int x2, .long y3, .null, .int x5, .long y6, .null, .int x8, .int x9] (v.toList ++ [.int x1, .ref r0]) G Q) := (js1 at189_13 rfl rfl rfl).trans ((jsci at189_14 rfl rfl).trans ((jspI (H := H) at189_15 rv189p_358 rfl h0 rfl).trans ((js1 at189_18 rfl rfl rfl).trans ((js1 at189_19 rfl rfl rfl).trans ((jspL (H := (jm_pI H r0 53 (1 : Int32))) at189_20 rv189p_361 rfl h0 rfl).trans ((js1 at189_23 rfl rfl rfl).trans ((js1 at189_24 rfl rfl rfl).trans ((jspI (H := (jm_pL (jm_pI H r0 53 (1 : Int32)) r0 54 y3)) at189_26 rv189p_365 rfl h0 rfl).trans ((js1 at189_29 rfl rfl rfl).trans ((js1 at189_30 rfl rfl rfl).trans ((jspL (H := (jm_pI (jm_pL (jm_pI H r0 53 (1 : Int32)) r0 54 y3) r0 55 x5)) at189_32 rv189p_368 rfl h0 rfl).trans ((js1 at189_35 rfl rfl rfl).trans ((js1 at189_36 rfl rfl rfl).trans ((jspI (H := (jm_pL (jm_pI (jm_pL (jm_pI H r0 53 (1 : Int32)) r0 54 y3) r0 55 x5) r0 56 y6)) at189_38 rv189p_371 rfl h0 rfl).trans ((js1 at189_41 rfl rfl rfl).trans ((js1 at189_42 rfl rfl rfl).trans ((js1 at189_43 rfl rfl rfl).trans ((js1 at189_44 rfl rfl rfl).trans ((js1 at189_45 rfl rfl rfl).trans (jscall (H := (jm_pI (jm_pL (jm_pI (jm_pL (jm_pI H r0 53 (1 : Int32)) r0 54 y3) r0 55 x5) r0 56 y6) r0 57 x8)) (as := [.ref r0, .int x1, .int x2]) (q := [.int x1, .ref r0]) at189_46 rfl rv189i_383 (jscutV rfl rfl rfl (Nat.le_of_ble_eq_true rfl) rfl h0) rfl (Nat.le_of_ble_eq_true rfl) rfl rfl))))))))))))))))))))
theorem at189_49 : jm_at 189 49 = some (.iload 9) := rfl
theorem at189_51 : jm_at 189 51 = some (.invokevirtual 386) := rfl
theorem rv189i_386 : jm_rv 189 (.invokevirtual 386) = (2, 200, 0, 0) := rfl
theorem u189_49 {S : Option (Nat × (Nat → Int32))} {H : jm_H} {Q : Option Value → jm_H → Prop} {r0 o0 : Nat} {x1 x2 x5 x8 x9 p1 p2 : Int32} {y3 y6 : Int64} (h0 : jm_tg H o0 = 13) : jm_w S 5 189 49 [.ref r0, .int x1, .int x2, .long y3, .null, .int x5, .long y6, .null, .int x8, .int x9] [.int p2, .int p1, .ref o0] H Q = jm_c S 200 [.ref o0, .int p1, .int p2, .int x9] H (fun v G => jm_w S 5 189 54 [.ref r0, .int x1, .int x2, .long y3, .null, .int x5, .long y6, .null, .int x8, .int x9] (v.toList ++ []) G Q) := (js1 at189_49 rfl rfl rfl).trans (jscall (H := H) (as := [.ref o0, .int p1, .int p2, .int x9]) (q := []) at189_51 rfl rv189i_386 (jscutV rfl rfl rfl (Nat.le_of_ble_eq_true rfl) rfl h0) rfl (Nat.le_of_ble_eq_true rfl) rfl rfl)
theorem at189_54 : jm_at 189 54 = some (.ireturn) := rfl
theorem u189_54 {S : Option (Nat × (Nat → Int32))} {H : jm_H} {Q : Option Value → jm_H → Prop} {r0 : Nat} {x1 x2 x5 x8 x9 p0 : Int32} {y3 y6 : Int64} : jm_w S 5 189 54 [.ref r0, .int x1, .int x2, .long y3, .null, .int x5, .long y6, .null, .int x8, .int x9] [.int p0] H Q = Q (some (.int p0)) H := jsret_i at189_54 rfl
theorem en189 {S : Option (Nat × (Nat → Int32))} {H : jm_H} {Q : Option Value → jm_H → Prop} {r0 : Nat} {x1 x2 x5 x8 x9 : Int32} {y3 y6 : Int64} : jm_c S 189 [.ref r0, .int x1, .int x2, .long y3, .int x5, .long y6, .int x8, .int x9] H Q = jm_w S 5 189 0 [.ref r0, .int x1, .int x2, .long y3, .null, .int x5, .long y6, .null, .int x8, .int x9] [] H Q := rfl
theorem at190_0 : jm_at 190 0 = some (.iconst 1) := rfl
theorem at190_1 : jm_at 190 1 = some (.istore_n 3) := rfl
theorem at190_2 : jm_at 190 2 = some (.iload_n 1) := rfl
theorem at190_3 : jm_at 190 3 = some (.invokestatic 280) := rfl
theorem rv190i_280 : jm_rv 190 (.invokestatic 280) = (1, 191, 0, 0) := rfl
theorem u190_0 {S : Option (Nat × (Nat → Int32))} {H : jm_H} {Q : Option Value → jm_H → Prop} {r0 : Nat} {x1 x2 : Int32} : jm_w S 4 190 0 [.ref r0, .int x1, .int x2, .null, .null, .null, .null, .null, .null] [] H Q = jm_c S 191 [.int x1] H (fun v G => jm_w S 4 190 6 [.ref r0, .int x1, .int x2, .int (1 : Int32), .null, .null, .null, .null, .null] (v.toList ++ []) G Q) := (jsci at190_0 rfl rfl).trans ((js1 at190_1 rfl rfl rfl).trans ((js1 at190_2 rfl rfl rfl).trans (jscall (H := H) (as := [.int x1]) (q := []) at190_3 rfl rv190i_280 (jscut rfl rfl rfl (Nat.le_of_ble_eq_true rfl)) rfl (Nat.le_of_ble_eq_true rfl) rfl rfl)))
theorem at190_6 : jm_at 190 6 = some (.iconst 1) := rfl
theorem at190_7 : jm_at 190 7 = some (.isub) := rfl
theorem at190_8 : jm_at 190 8 = some (.istore 4) := rfl
theorem at190_10 : jm_at 190 10 = some (.aload_n 0) := rfl
theorem at190_11 : jm_at 190 11 = some (.iload_n 1) := rfl
theorem at190_12 : jm_at 190 12 = some (.iload_n 2) := rfl
theorem at190_13 : jm_at 190 13 = some (.iload_n 3) := rfl
theorem at190_14 : jm_at 190 14 = some (.invokevirtual 377) := rfl
theorem rv190i_377 : jm_rv 190 (.invokevirtual 377) = (2, 192, 0, 0) := rfl
theorem u190_6 {S : Option (Nat × (Nat → Int32))} {H : jm_H} {Q : Option Value → jm_H → Prop} {r0 : Nat} {x1 x2 x3 p0 : Int32} (h0 : jm_tg H r0 = 13) : jm_w S 4 190 6 [.ref r0, .int x1, .int x2, .int x3, .null, .null, .null, .null, .null] [.int p0] H Q = jm_c S 192 [.ref r0, .int x1, .int x2, .int x3] H (fun v G => jm_w S 4 190 17 [.ref r0, .int x1, .int x2, .int x3, .int (p0 - (1 : Int32)), .null, .null, .null, .null] (v.toList ++ []) G Q) := (jsci at190_6 rfl rfl).trans ((js0 at190_7 rfl rfl rfl).trans ((js1 at190_8 rfl rfl rfl).trans ((js1 at190_10 rfl rfl rfl).trans ((js1 at190_11 rfl rfl rfl).trans ((js1 at190_12 rfl rfl rfl).trans ((js1 at190_13 rfl rfl rfl).trans (jscall (H := H) (as := [.ref r0, .int x1, .int x2, .int x3]) (q := []) at190_14 rfl rv190i_377 (jscutV rfl rfl rfl (Nat.le_of_ble_eq_true rfl) rfl h0) rfl (Nat.le_of_ble_eq_true rfl) rfl rfl)))))))
theorem at190_17 : jm_at 190 17 = some (.istore 5) := rfl
theorem at190_19 : jm_at 190 19 = some (.aload_n 0) := rfl
theorem at190_20 : jm_at 190 20 = some (.iload_n 1) := rfl
theorem at190_21 : jm_at 190 21 = some (.iload_n 2) := rfl
theorem at190_22 : jm_at 190 22 = some (.iload 4) := rfl
theorem at190_24 : jm_at 190 24 = some (.invokevirtual 377) := rfl
theorem u190_17 {S : Option (Nat × (Nat → Int32))} {H : jm_H} {Q : Option Value → jm_H → Prop} {r0 : Nat} {x1 x2 x3 x4 p0 : Int32} (h0 : jm_tg H r0 = 13) : jm_w S 4 190 17 [.ref r0, .int x1, .int x2, .int x3, .int x4, .null, .null, .null, .null] [.int p0] H Q = jm_c S 192 [.ref r0, .int x1, .int x2, .int x4] H (fun v G => jm_w S 4 190 27 [.ref r0, .int x1, .int x2, .int x3, .int x4, .int p0, .null, .null, .null] (v.toList ++ []) G Q) := (js1 at190_17 rfl rfl rfl).trans ((js1 at190_19 rfl rfl rfl).trans ((js1 at190_20 rfl rfl rfl).trans ((js1 at190_21 rfl rfl rfl).trans ((js1 at190_22 rfl rfl rfl).trans (jscall (H := H) (as := [.ref r0, .int x1, .int x2, .int x4]) (q := []) at190_24 rfl rv190i_377 (jscutV rfl rfl rfl (Nat.le_of_ble_eq_true rfl) rfl h0) rfl (Nat.le_of_ble_eq_true rfl) rfl rfl)))))
theorem at190_27 : jm_at 190 27 = some (.istore 6) := rfl
theorem at190_29 : jm_at 190 29 = some (.iload 5) := rfl
theorem at190_31 : jm_at 190 31 = some (.ifCond .lt 8) := rfl
theorem u190_27 {S : Option (Nat × (Nat → Int32))} {H : jm_H} {Q : Option Value → jm_H → Prop} {r0 : Nat} {x1 x2 x3 x4 x5 p0 : Int32} : jm_w S 4 190 27 [.ref r0, .int x1, .int x2, .int x3, .int x4, .int x5, .null, .null, .null] [.int p0] H Q = if x5 < 0 then jm_w S 4 190 39 [.ref r0, .int x1, .int x2, .int x3, .int x4, .int x5, .int p0, .null, .null] [] H Q else jm_w S 4 190 34 [.ref r0, .int x1, .int x2, .int x3, .int x4, .int x5, .int p0, .null, .null] [] H Q := (js1 at190_27 rfl rfl rfl).trans ((js1 at190_29 rfl rfl rfl).trans (jsif (P := x5 < 0) at190_31 rfl rfl))
theorem at190_34 : jm_at 190 34 = some (.iload 6) := rfl
theorem at190_36 : jm_at 190 36 = some (.ifCond .le 29) := rfl
theorem u190_34 {S : Option (Nat × (Nat → Int32))} {H : jm_H} {Q : Option Value → jm_H → Prop} {r0 : Nat} {x1 x2 x3 x4 x5 x6 : Int32} : jm_w S 4 190 34 [.ref r0, .int x1, .int x2, .int x3, .int x4, .int x5, .int x6, .null, .null] [] H Q = if x6 ≤ 0 then jm_w S 4 190 65 [.ref r0, .int x1, .int x2, .int x3, .int x4, .int x5, .int x6, .null, .null] [] H Q else jm_w S 4 190 39 [.ref r0, .int x1, .int x2, .int x3, .int x4, .int x5, .int x6, .null, .null] [] H Q := (js1 at190_34 rfl rfl rfl).trans (jsif (P := x6 ≤ 0) at190_36 rfl rfl)
theorem at190_39 : jm_at 190 39 = some (.aload_n 0) := rfl
theorem at190_40 : jm_at 190 40 = some (.iload 5) := rfl
theorem at190_42 : jm_at 190 42 = some (.ifCond .ge 7) := rfl
theorem u190_39 {S : Option (Nat × (Nat → Int32))} {H : jm_H} {Q : Option Value → jm_H → Prop} {r0 : Nat} {x1 x2 x3 x4 x5 x6 : Int32} : jm_w S 4 190 39 [.ref r0, .int x1, .int x2, .int x3, .int x4, .int x5, .int x6, .null, .null] [] H Q = if 0 ≤ x5 then jm_w S 4 190 49 [.ref r0, .int x1, .int x2, .int x3, .int x4, .int x5, .int x6, .null, .null] [.ref r0] H Q else jm_w S 4 190 45 [.ref r0, .int x1, .int x2, .int x3, .int x4, .int x5, .int x6, .null, .null] [.ref r0] H Q := (js1 at190_39 rfl rfl rfl).trans ((js1 at190_40 rfl rfl rfl).trans (jsif (P := 0 ≤ x5) at190_42 rfl rfl))
theorem at190_45 : jm_at 190 45 = some (.iconst 1) := rfl
theorem at190_46 : jm_at 190 46 = some (.goto 4) := rfl
theorem u190_45 {S : Option (Nat × (Nat → Int32))} {H : jm_H} {Q : Option Value → jm_H → Prop} {r0 o0 : Nat} {x1 x2 x3 x4 x5 x6 : Int32} : jm_w S 4 190 45 [.ref r0, .int x1, .int x2, .int x3, .int x4, .int x5, .int x6, .null, .null] [.ref o0] H Q = jm_w S 4 190 50 [.ref r0, .int x1, .int x2, .int x3, .int x4, .int x5, .int x6, .null, .null] [.int (1 : Int32), .ref o0] H Q := (jsci at190_45 rfl rfl).trans (js2 at190_46 rfl rfl)
theorem at190_49 : jm_at 190 49 = some (.iconst (-1)) := rfl
theorem u190_49 {S : Option (Nat × (Nat → Int32))} {H : jm_H} {Q : Option Value → jm_H → Prop} {r0 o0 : Nat} {x1 x2 x3 x4 x5 x6 : Int32} : jm_w S 4 190 49 [.ref r0, .int x1, .int x2, .int x3, .int x4, .int x5, .int x6, .null, .null] [.ref o0] H Q = jm_w S 4 190 50 [.ref r0, .int x1, .int x2, .int x3, .int x4, .int x5, .int x6, .null, .null] [.int (-1 : Int32), .ref o0] H Q := jsci at190_49 rfl rfl
theorem at190_50 : jm_at 190 50 = some (.putfield 380) := rfl
theorem rv190p_380 : jm_rv 190 (.putfield 380) = (0, 12, 58, 0) := rfl
theorem at190_53 : jm_at 190 53 = some (.iload 5) := rfl
theorem at190_55 : jm_at 190 55 = some (.ifCond .ge 7) := rfl
theorem u190_50 {S : Option (Nat × (Nat → Int32))} {H : jm_H} {Q : Option Value → jm_H → Prop} {r0 o0 : Nat} {x1 x2 x3 x4 x5 x6 p1 : Int32} (h0 : jm_tg H o0 = 13) : jm_w S 4 190 50 [.ref r0, .int x1, .int x2, .int x3, .int x4, .int x5, .int x6, .null, .null] [.int p1, .ref o0] H Q = if 0 ≤ x5 then jm_w S 4 190 62 [.ref r0, .int x1, .int x2, .int x3, .int x4, .int x5, .int x6, .null, .null] [] (jm_pI H o0 58 p1) Q else jm_w S 4 190 58 [.ref r0, .int x1, .int x2, .int x3, .int x4, .int x5, .int x6, .null, .null] [] (jm_pI H o0 58 p1) Q := (jspI (H := H) at190_50 rv190p_380 rfl h0 rfl).trans ((js1 at190_53 rfl rfl rfl).trans (jsif (P := 0 ≤ x5) at190_55 rfl rfl))
theorem at190_58 : jm_at 190 58 = some (.iload_n 3) := rfl
theorem at190_59 : jm_at 190 59 = some (.goto 5) := rfl
theorem u190_58 {S : Option (Nat × (Nat → Int32))} {H : jm_H} {Q : Option Value → jm_H → Prop} {r0 : Nat} {x1 x2 x3 x4 x5 x6 : Int32} : jm_w S 4 190 58 [.ref r0, .int x1, .int x2, .int x3, .int x4, .int x5, .int x6, .null, .null] [] H Q = jm_w S 4 190 64 [.ref r0, .int x1, .int x2, .int x3, .int x4, .int x5, .int x6, .null, .null] [.int x3] H Q := (js1 at190_58 rfl rfl rfl).trans (js2 at190_59 rfl rfl)
theorem at190_62 : jm_at 190 62 = some (.iload 4) := rfl
theorem u190_62 {S : Option (Nat × (Nat → Int32))} {H : jm_H} {Q : Option Value → jm_H → Prop} {r0 : Nat} {x1 x2 x3 x4 x5 x6 : Int32} : jm_w S 4 190 62 [.ref r0, .int x1, .int x2, .int x3, .int x4, .int x5, .int x6, .null, .null] [] H Q = jm_w S 4 190 64 [.ref r0, .int x1, .int x2, .int x3, .int x4, .int x5, .int x6, .null, .null] [.int x4] H Q := js1 at190_62 rfl rfl rfl
theorem at190_64 : jm_at 190 64 = some (.ireturn) := rfl
theorem u190_64 {S : Option (Nat × (Nat → Int32))} {H : jm_H} {Q : Option Value → jm_H → Prop} {r0 : Nat} {x1 x2 x3 x4 x5 x6 p0 : Int32} : jm_w S 4 190 64 [.ref r0, .int x1, .int x2, .int x3, .int x4, .int x5, .int x6, .null, .null] [.int p0] H Q = Q (some (.int p0)) H := jsret_i at190_64 rfl
theorem at190_65 : jm_at 190 65 = some (.iload 4) := rfl
theorem at190_67 : jm_at 190 67 = some (.iload_n 3) := rfl
theorem at190_68 : jm_at 190 68 = some (.isub) := rfl
theorem at190_69 : jm_at 190 69 = some (.iconst 1) := rfl
theorem at190_70 : jm_at 190 70 = some (.if_icmp .le 35) := rfl
theorem u190_65 {S : Option (Nat × (Nat → Int32))} {H : jm_H} {Q : Option Value → jm_H → Prop} {r0 : Nat} {x1 x2 x3 x4 x5 x6 : Int32} {w7 : Value} : jm_w S 4 190 65 [.ref r0, .int x1, .int x2, .int x3, .int x4, .int x5, .int x6, w7, .null] [] H Q = if (x4 - x3) ≤ (1 : Int32) then jm_w S 4 190 105 [.ref r0, .int x1, .int x2, .int x3, .int x4, .int x5, .int x6, w7, .null] [] H Q else jm_w S 4 190 73 [.ref r0, .int x1, .int x2, .int x3, .int x4, .int x5, .int x6, w7, .null] [] H Q := (js1 at190_65 rfl rfl rfl).trans ((js1 at190_67 rfl rfl rfl).trans ((js0 at190_68 rfl rfl rfl).trans ((jsci at190_69 rfl rfl).trans (jsif (P := (x4 - x3) ≤ (1 : Int32)) at190_70 rfl rfl))))
theorem at190_73 : jm_at 190 73 = some (.iload_n 3) := rfl
theorem at190_74 : jm_at 190 74 = some (.iload 4) := rfl
theorem at190_76 : jm_at 190 76 = some (.iadd) := rfl
theorem at190_77 : jm_at 190 77 = some (.iconst 2) := rfl
theorem at190_78 : jm_at 190 78 = some (.idiv) := rfl
theorem at190_79 : jm_at 190 79 = some (.istore 7) := rfl
theorem at190_81 : jm_at 190 81 = some (.aload_n 0) := rfl
theorem at190_82 : jm_at 190 82 = some (.iload_n 1) := rfl
theorem at190_83 : jm_at 190 83 = some (.iload_n 2) := rfl
theorem at190_84 : jm_at 190 84 = some (.iload 7) := rfl
theorem at190_86 : jm_at 190 86 = some (.invokevirtual 377) := rfl
theorem u190_73 {S : Option (Nat × (Nat → Int32))} {H : jm_H} {Q : Option Value → jm_H → Prop} {r0 : Nat} {x1 x2 x3 x4 x5 x6 : Int32} {w7 : Value} (h0 : jm_tg H r0 = 13) : jm_w S 4 190 73 [.ref r0, .int x1, .int x2, .int x3, .int x4, .int x5, .int x6, w7, .null] [] H Q = jm_c S 192 [.ref r0, .int x1, .int x2, .int ((x3 + x4) / (2 : Int32))] H (fun v G => jm_w S 4 190 89 [.ref r0, .int x1, .int x2, .int x3, .int x4, .int x5, .int x6, .int ((x3 + x4) / (2 : Int32)), .null] (v.toList ++ []) G Q) := (js1 at190_73 rfl rfl rfl).trans ((js1 at190_74 rfl rfl rfl).trans ((js0 at190_76 rfl rfl rfl).trans ((jsci at190_77 rfl rfl).trans ((jsidiv at190_78 (by decide) rfl).trans ((js1 at190_79 rfl rfl rfl).trans ((js1 at190_81 rfl rfl rfl).trans ((js1 at190_82 rfl rfl rfl).trans ((js1 at190_83 rfl rfl rfl).trans ((js1 at190_84 rfl rfl rfl).trans (jscall (H := H) (as := [.ref r0, .int x1, .int x2, .int ((x3 + x4) / (2 : Int32))]) (q := []) at190_86 rfl rv190i_377 (jscutV rfl rfl rfl (Nat.le_of_ble_eq_true rfl) rfl h0) rfl (Nat.le_of_ble_eq_true rfl) rfl rfl))))))))))
theorem at190_89 : jm_at 190 89 = some (.ifCond .lt 9) := rfl
theorem u190_89 {S : Option (Nat × (Nat → Int32))} {H : jm_H} {Q : Option Value → jm_H → Prop} {r0 : Nat} {x1 x2 x3 x4 x5 x6 x7 p0 : Int32} : jm_w S 4 190 89 [.ref r0, .int x1, .int x2, .int x3, .int x4, .int x5, .int x6, .int x7, .null] [.int p0] H Q = if p0 < 0 then jm_w S 4 190 98 [.ref r0, .int x1, .int x2, .int x3, .int x4, .int x5, .int x6, .int x7, .null] [] H Q else jm_w S 4 190 92 [.ref r0, .int x1, .int x2, .int x3, .int x4, .int x5, .int x6, .int x7, .null] [] H Q := jsif (P := p0 < 0) at190_89 rfl rfl
theorem at190_92 : jm_at 190 92 = some (.iload 7) := rfl
theorem at190_94 : jm_at 190 94 = some (.istore_n 3) := rfl
theorem at190_95 : jm_at 190 95 = some (.goto 7) := rfl
theorem u190_92 {S : Option (Nat × (Nat → Int32))} {H : jm_H} {Q : Option Value → jm_H → Prop} {r0 : Nat} {x1 x2 x3 x4 x5 x6 x7 : Int32} : jm_w S 4 190 92 [.ref r0, .int x1, .int x2, .int x3, .int x4, .int x5, .int x6, .int x7, .null] [] H Q = jm_w S 4 190 102 [.ref r0, .int x1, .int x2, .int x7, .int x4, .int x5, .int x6, .int x7, .null] [] H Q := (js1 at190_92 rfl rfl rfl).trans ((js1 at190_94 rfl rfl rfl).trans (js2 at190_95 rfl rfl))
theorem at190_98 : jm_at 190 98 = some (.iload 7) := rfl
theorem at190_100 : jm_at 190 100 = some (.istore 4) := rfl
theorem u190_98 {S : Option (Nat × (Nat → Int32))} {H : jm_H} {Q : Option Value → jm_H → Prop} {r0 : Nat} {x1 x2 x3 x4 x5 x6 x7 : Int32} : jm_w S 4 190 98 [.ref r0, .int x1, .int x2, .int x3, .int x4, .int x5, .int x6, .int x7, .null] [] H Q = jm_w S 4 190 102 [.ref r0, .int x1, .int x2, .int x3, .int x7, .int x5, .int x6, .int x7, .null] [] H Q := (js1 at190_98 rfl rfl rfl).trans (js1 at190_100 rfl rfl rfl)
theorem at190_102 : jm_at 190 102 = some (.goto (-37)) := rfl
theorem u190_102 {S : Option (Nat × (Nat → Int32))} {H : jm_H} {Q : Option Value → jm_H → Prop} {r0 : Nat} {x1 x2 x3 x4 x5 x6 x7 : Int32} : jm_w S 4 190 102 [.ref r0, .int x1, .int x2, .int x3, .int x4, .int x5, .int x6, .int x7, .null] [] H Q = jm_w S 4 190 65 [.ref r0, .int x1, .int x2, .int x3, .int x4, .int x5, .int x6, .int x7, .null] [] H Q := js2 at190_102 rfl rfl
theorem at190_105 : jm_at 190 105 = some (.aload_n 0) := rfl
theorem at190_106 : jm_at 190 106 = some (.iload_n 1) := rfl
theorem at190_107 : jm_at 190 107 = some (.iload_n 2) := rfl
theorem at190_108 : jm_at 190 108 = some (.iload 4) := rfl
theorem at190_110 : jm_at 190 110 = some (.invokevirtual 377) := rfl
theorem u190_105 {S : Option (Nat × (Nat → Int32))} {H : jm_H} {Q : Option Value → jm_H → Prop} {r0 : Nat} {x1 x2 x3 x4 x5 x6 : Int32} {w7 : Value} (h0 : jm_tg H r0 = 13) : jm_w S 4 190 105 [.ref r0, .int x1, .int x2, .int x3, .int x4, .int x5, .int x6, w7, .null] [] H Q = jm_c S 192 [.ref r0, .int x1, .int x2, .int x4] H (fun v G => jm_w S 4 190 113 [.ref r0, .int x1, .int x2, .int x3, .int x4, .int x5, .int x6, w7, .null] (v.toList ++ []) G Q) := (js1 at190_105 rfl rfl rfl).trans ((js1 at190_106 rfl rfl rfl).trans ((js1 at190_107 rfl rfl rfl).trans ((js1 at190_108 rfl rfl rfl).trans (jscall (H := H) (as := [.ref r0, .int x1, .int x2, .int x4]) (q := []) at190_110 rfl rv190i_377 (jscutV rfl rfl rfl (Nat.le_of_ble_eq_true rfl) rfl h0) rfl (Nat.le_of_ble_eq_true rfl) rfl rfl))))
theorem at190_113 : jm_at 190 113 = some (.ifCond .ne 6) := rfl
theorem u190_113 {S : Option (Nat × (Nat → Int32))} {H : jm_H} {Q : Option Value → jm_H → Prop} {r0 : Nat} {x1 x2 x3 x4 x5 x6 p0 : Int32} {w7 : Value} : jm_w S 4 190 113 [.ref r0, .int x1, .int x2, .int x3, .int x4, .int x5, .int x6, w7, .null] [.int p0] H Q = if ¬ p0 = 0 then jm_w S 4 190 119 [.ref r0, .int x1, .int x2, .int x3, .int x4, .int x5, .int x6, w7, .null] [] H Q else jm_w S 4 190 116 [.ref r0, .int x1, .int x2, .int x3, .int x4, .int x5, .int x6, w7, .null] [] H Q := jsif (P := ¬ p0 = 0) at190_113 rfl rfl
theorem at190_116 : jm_at 190 116 = some (.iload 4) := rfl
theorem at190_118 : jm_at 190 118 = some (.istore_n 3) := rfl
theorem u190_116 {S : Option (Nat × (Nat → Int32))} {H : jm_H} {Q : Option Value → jm_H → Prop} {r0 : Nat} {x1 x2 x3 x4 x5 x6 : Int32} {w7 : Value} : jm_w S 4 190 116 [.ref r0, .int x1, .int x2, .int x3, .int x4, .int x5, .int x6, w7, .null] [] H Q = jm_w S 4 190 119 [.ref r0, .int x1, .int x2, .int x4, .int x4, .int x5, .int x6, w7, .null] [] H Q := (js1 at190_116 rfl rfl rfl).trans (js1 at190_118 rfl rfl rfl)
theorem at190_119 : jm_at 190 119 = some (.aload_n 0) := rfl
theorem at190_120 : jm_at 190 120 = some (.iconst 0) := rfl
theorem at190_121 : jm_at 190 121 = some (.putfield 380) := rfl
theorem at190_124 : jm_at 190 124 = some (.aload_n 0) := rfl
theorem at190_125 : jm_at 190 125 = some (.iload_n 1) := rfl
theorem at190_126 : jm_at 190 126 = some (.iload_n 2) := rfl
theorem at190_127 : jm_at 190 127 = some (.iload_n 3) := rfl
theorem at190_128 : jm_at 190 128 = some (.invokevirtual 377) := rfl
theorem u190_119 {S : Option (Nat × (Nat → Int32))} {H : jm_H} {Q : Option Value → jm_H → Prop} {r0 : Nat} {x1 x2 x3 x4 x5 x6 : Int32} {w7 : Value} (h0 : jm_tg H r0 = 13) : jm_w S 4 190 119 [.ref r0, .int x1, .int x2, .int x3, .int x4, .int x5, .int x6, w7, .null] [] H Q = jm_c S 192 [.ref r0, .int x1, .int x2, .int x3] (jm_pI H r0 58 (0 : Int32)) (fun v G => jm_w S 4 190 131 [.ref r0, .int x1, .int x2, .int x3, .int x4, .int x5, .int x6, w7, .null] (v.toList ++ []) G Q) := (js1 at190_119 rfl rfl rfl).trans ((jsci at190_120 rfl rfl).trans ((jspI (H := H) at190_121 rv190p_380 rfl h0 rfl).trans ((js1 at190_124 rfl rfl rfl).trans ((js1 at190_125 rfl rfl rfl).trans ((js1 at190_126 rfl rfl rfl).trans ((js1 at190_127 rfl rfl rfl).trans (jscall (H := (jm_pI H r0 58 (0 : Int32))) (as := [.ref r0, .int x1, .int x2, .int x3]) (q := []) at190_128 rfl rv190i_377 (jscutV rfl rfl rfl (Nat.le_of_ble_eq_true rfl) rfl h0) rfl (Nat.le_of_ble_eq_true rfl) rfl rfl)))))))
theorem at190_131 : jm_at 190 131 = some (.ifCond .ne 5) := rfl
theorem u190_131 {S : Option (Nat × (Nat → Int32))} {H : jm_H} {Q : Option Value → jm_H → Prop} {r0 : Nat} {x1 x2 x3 x4 x5 x6 p0 : Int32} {w7 : Value} : jm_w S 4 190 131 [.ref r0, .int x1, .int x2, .int x3, .int x4, .int x5, .int x6, w7, .null] [.int p0] H Q = if ¬ p0 = 0 then jm_w S 4 190 136 [.ref r0, .int x1, .int x2, .int x3, .int x4, .int x5, .int x6, w7, .null] [] H Q else jm_w S 4 190 134 [.ref r0, .int x1, .int x2, .int x3, .int x4, .int x5, .int x6, w7, .null] [] H Q := jsif (P := ¬ p0 = 0) at190_131 rfl rfl
theorem at190_134 : jm_at 190 134 = some (.iload_n 3) := rfl
theorem at190_135 : jm_at 190 135 = some (.ireturn) := rfl
theorem u190_134 {S : Option (Nat × (Nat → Int32))} {H : jm_H} {Q : Option Value → jm_H → Prop} {r0 : Nat} {x1 x2 x3 x4 x5 x6 : Int32} {w7 : Value} : jm_w S 4 190 134 [.ref r0, .int x1, .int x2, .int x3, .int x4, .int x5, .int x6, w7, .null] [] H Q = Q (some (.int x3)) H := (js1 at190_134 rfl rfl rfl).trans (jsret_i at190_135 rfl)
theorem at190_136 : jm_at 190 136 = some (.aload_n 0) := rfl
theorem at190_137 : jm_at 190 137 = some (.iload_n 1) := rfl
theorem at190_138 : jm_at 190 138 = some (.iconst 1) := rfl
theorem at190_139 : jm_at 190 139 = some (.iadd) := rfl
theorem at190_140 : jm_at 190 140 = some (.iload_n 2) := rfl
theorem at190_141 : jm_at 190 141 = some (.iconst 2) := rfl
theorem at190_142 : jm_at 190 142 = some (.iload_n 3) := rfl
theorem at190_143 : jm_at 190 143 = some (.imul) := rfl
theorem at190_144 : jm_at 190 144 = some (.iconst 1) := rfl
theorem at190_145 : jm_at 190 145 = some (.iadd) := rfl
theorem at190_146 : jm_at 190 146 = some (.invokevirtual 377) := rfl
theorem u190_136 {S : Option (Nat × (Nat → Int32))} {H : jm_H} {Q : Option Value → jm_H → Prop} {r0 : Nat} {x1 x2 x3 x4 x5 x6 : Int32} {w7 : Value} (h0 : jm_tg H r0 = 13) : jm_w S 4 190 136 [.ref r0, .int x1, .int x2, .int x3, .int x4, .int x5, .int x6, w7, .null] [] H Q = jm_c S 192 [.ref r0, .int (x1 + (1 : Int32)), .int x2, .int (((2 : Int32) * x3) + (1 : Int32))] H (fun v G => jm_w S 4 190 149 [.ref r0, .int x1, .int x2, .int x3, .int x4, .int x5, .int x6, w7, .null] (v.toList ++ []) G Q) := (js1 at190_136 rfl rfl rfl).trans ((js1 at190_137 rfl rfl rfl).trans ((jsci at190_138 rfl rfl).trans ((js0 at190_139 rfl rfl rfl).trans ((js1 at190_140 rfl rfl rfl).trans ((jsci at190_141 rfl rfl).trans ((js1 at190_142 rfl rfl rfl).trans ((js0 at190_143 rfl rfl rfl).trans ((jsci at190_144 rfl rfl).trans ((js0 at190_145 rfl rfl rfl).trans (jscall (H := H) (as := [.ref r0, .int (x1 + (1 : Int32)), .int x2, .int (((2 : Int32) * x3) + (1 : Int32))]) (q := []) at190_146 rfl rv190i_377 (jscutV rfl rfl rfl (Nat.le_of_ble_eq_true rfl) rfl h0) rfl (Nat.le_of_ble_eq_true rfl) rfl rfl))))))))))
theorem at190_149 : jm_at 190 149 = some (.istore 7) := rfl
theorem at190_151 : jm_at 190 151 = some (.iload 7) := rfl
theorem at190_153 : jm_at 190 153 = some (.ifCond .gt 15) := rfl
theorem u190_149 {S : Option (Nat × (Nat → Int32))} {H : jm_H} {Q : Option Value → jm_H → Prop} {r0 : Nat} {x1 x2 x3 x4 x5 x6 p0 : Int32} {w7 : Value} : jm_w S 4 190 149 [.ref r0, .int x1, .int x2, .int x3, .int x4, .int x5, .int x6, w7, .null] [.int p0] H Q = if 0 < p0 then jm_w S 4 190 168 [.ref r0, .int x1, .int x2, .int x3, .int x4, .int x5, .int x6, .int p0, .null] [] H Q else jm_w S 4 190 156 [.ref r0, .int x1, .int x2, .int x3, .int x4, .int x5, .int x6, .int p0, .null] [] H Q := (js1 at190_149 rfl rfl rfl).trans ((js1 at190_151 rfl rfl rfl).trans (jsif (P := 0 < p0) at190_153 rfl rfl))
theorem at190_156 : jm_at 190 156 = some (.iload 7) := rfl
theorem at190_158 : jm_at 190 158 = some (.ifCond .ne 14) := rfl
theorem u190_156 {S : Option (Nat × (Nat → Int32))} {H : jm_H} {Q : Option Value → jm_H → Prop} {r0 : Nat} {x1 x2 x3 x4 x5 x6 x7 : Int32} : jm_w S 4 190 156 [.ref r0, .int x1, .int x2, .int x3, .int x4, .int x5, .int x6, .int x7, .null] [] H Q = if ¬ x7 = 0 then jm_w S 4 190 172 [.ref r0, .int x1, .int x2, .int x3, .int x4, .int x5, .int x6, .int x7, .null] [] H Q else jm_w S 4 190 161 [.ref r0, .int x1, .int x2, .int x3, .int x4, .int x5, .int x6, .int x7, .null] [] H Q := (js1 at190_156 rfl rfl rfl).trans (jsif (P := ¬ x7 = 0) at190_158 rfl rfl)
theorem at190_161 : jm_at 190 161 = some (.iload_n 3) := rfl
theorem at190_162 : jm_at 190 162 = some (.iconst 2) := rfl
theorem at190_163 : jm_at 190 163 = some (.irem) := rfl
theorem at190_164 : jm_at 190 164 = some (.iconst 1) := rfl
theorem at190_165 : jm_at 190 165 = some (.if_icmp .ne 7) := rfl
theorem u190_161 {S : Option (Nat × (Nat → Int32))} {H : jm_H} {Q : Option Value → jm_H → Prop} {r0 : Nat} {x1 x2 x3 x4 x5 x6 x7 : Int32} : jm_w S 4 190 161 [.ref r0, .int x1, .int x2, .int x3, .int x4, .int x5, .int x6, .int x7, .null] [] H Q = if ¬ (x3 - x3 / (2 : Int32) * (2 : Int32)) = (1 : Int32) then jm_w S 4 190 172 [.ref r0, .int x1, .int x2, .int x3, .int x4, .int x5, .int x6, .int x7, .null] [] H Q else jm_w S 4 190 168 [.ref r0, .int x1, .int x2, .int x3, .int x4, .int x5, .int x6, .int x7, .null] [] H Q := (js1 at190_161 rfl rfl rfl).trans ((jsci at190_162 rfl rfl).trans ((jsirem at190_163 (by decide) rfl).trans ((jsci at190_164 rfl rfl).trans (jsif (P := ¬ (x3 - x3 / (2 : Int32) * (2 : Int32)) = (1 : Int32)) at190_165 rfl rfl))))
theorem at190_168 : jm_at 190 168 = some (.iconst 1) := rfl
theorem at190_169 : jm_at 190 169 = some (.goto 4) := rfl
theorem u190_168 {S : Option (Nat × (Nat → Int32))} {H : jm_H} {Q : Option Value → jm_H → Prop} {r0 : Nat} {x1 x2 x3 x4 x5 x6 x7 : Int32} : jm_w S 4 190 168 [.ref r0, .int x1, .int x2, .int x3, .int x4, .int x5, .int x6, .int x7, .null] [] H Q = jm_w S 4 190 173 [.ref r0, .int x1, .int x2, .int x3, .int x4, .int x5, .int x6, .int x7, .null] [.int (1 : Int32)] H Q := (jsci at190_168 rfl rfl).trans (js2 at190_169 rfl rfl)
theorem at190_172 : jm_at 190 172 = some (.iconst 0) := rfl
theorem u190_172 {S : Option (Nat × (Nat → Int32))} {H : jm_H} {Q : Option Value → jm_H → Prop} {r0 : Nat} {x1 x2 x3 x4 x5 x6 x7 : Int32} : jm_w S 4 190 172 [.ref r0, .int x1, .int x2, .int x3, .int x4, .int x5, .int x6, .int x7, .null] [] H Q = jm_w S 4 190 173 [.ref r0, .int x1, .int x2, .int x3, .int x4, .int x5, .int x6, .int x7, .null] [.int (0 : Int32)] H Q := jsci at190_172 rfl rfl
theorem at190_173 : jm_at 190 173 = some (.istore 8) := rfl
theorem at190_175 : jm_at 190 175 = some (.aload_n 0) := rfl
theorem at190_176 : jm_at 190 176 = some (.iload 8) := rfl
theorem at190_178 : jm_at 190 178 = some (.ifCond .eq 7) := rfl
theorem u190_173 {S : Option (Nat × (Nat → Int32))} {H : jm_H} {Q : Option Value → jm_H → Prop} {r0 : Nat} {x1 x2 x3 x4 x5 x6 x7 p0 : Int32} : jm_w S 4 190 173 [.ref r0, .int x1, .int x2, .int x3, .int x4, .int x5, .int x6, .int x7, .null] [.int p0] H Q = if p0 = 0 then jm_w S 4 190 185 [.ref r0, .int x1, .int x2, .int x3, .int x4, .int x5, .int x6, .int x7, .int p0] [.ref r0] H Q else jm_w S 4 190 181 [.ref r0, .int x1, .int x2, .int x3, .int x4, .int x5, .int x6, .int x7, .int p0] [.ref r0] H Q := (js1 at190_173 rfl rfl rfl).trans ((js1 at190_175 rfl rfl rfl).trans ((js1 at190_176 rfl rfl rfl).trans (jsif (P := p0 = 0) at190_178 rfl rfl)))
theorem at190_181 : jm_at 190 181 = some (.iconst 1) := rfl
theorem at190_182 : jm_at 190 182 = some (.goto 4) := rfl
theorem u190_181 {S : Option (Nat × (Nat → Int32))} {H : jm_H} {Q : Option Value → jm_H → Prop} {r0 o0 : Nat} {x1 x2 x3 x4 x5 x6 x7 x8 : Int32} : jm_w S 4 190 181 [.ref r0, .int x1, .int x2, .int x3, .int x4, .int x5, .int x6, .int x7, .int x8] [.ref o0] H Q = jm_w S 4 190 186 [.ref r0, .int x1, .int x2, .int x3, .int x4, .int x5, .int x6, .int x7, .int x8] [.int (1 : Int32), .ref o0] H Q := (jsci at190_181 rfl rfl).trans (js2 at190_182 rfl rfl)
theorem at190_185 : jm_at 190 185 = some (.iconst (-1)) := rfl
theorem u190_185 {S : Option (Nat × (Nat → Int32))} {H : jm_H} {Q : Option Value → jm_H → Prop} {r0 o0 : Nat} {x1 x2 x3 x4 x5 x6 x7 x8 : Int32} : jm_w S 4 190 185 [.ref r0, .int x1, .int x2, .int x3, .int x4, .int x5, .int x6, .int x7, .int x8] [.ref o0] H Q = jm_w S 4 190 186 [.ref r0, .int x1, .int x2, .int x3, .int x4, .int x5, .int x6, .int x7, .int x8] [.int (-1 : Int32), .ref o0] H Q := jsci at190_185 rfl rfl
theorem at190_186 : jm_at 190 186 = some (.putfield 380) := rfl
theorem at190_189 : jm_at 190 189 = some (.iload 8) := rfl
theorem at190_191 : jm_at 190 191 = some (.ifCond .eq 9) := rfl
theorem u190_186 {S : Option (Nat × (Nat → Int32))} {H : jm_H} {Q : Option Value → jm_H → Prop} {r0 o0 : Nat} {x1 x2 x3 x4 x5 x6 x7 x8 p1 : Int32} (h0 : jm_tg H o0 = 13) : jm_w S 4 190 186 [.ref r0, .int x1, .int x2, .int x3, .int x4, .int x5, .int x6, .int x7, .int x8] [.int p1, .ref o0] H Q = if x8 = 0 then jm_w S 4 190 200 [.ref r0, .int x1, .int x2, .int x3, .int x4, .int x5, .int x6, .int x7, .int x8] [] (jm_pI H o0 58 p1) Q else jm_w S 4 190 194 [.ref r0, .int x1, .int x2, .int x3, .int x4, .int x5, .int x6, .int x7, .int x8] [] (jm_pI H o0 58 p1) Q := (jspI (H := H) at190_186 rv190p_380 rfl h0 rfl).trans ((js1 at190_189 rfl rfl rfl).trans (jsif (P := x8 = 0) at190_191 rfl rfl))
theorem at190_194 : jm_at 190 194 = some (.iload_n 3) := rfl
theorem at190_195 : jm_at 190 195 = some (.iconst 1) := rfl
theorem at190_196 : jm_at 190 196 = some (.iadd) := rfl
theorem at190_197 : jm_at 190 197 = some (.goto 4) := rfl
theorem u190_194 {S : Option (Nat × (Nat → Int32))} {H : jm_H} {Q : Option Value → jm_H → Prop} {r0 : Nat} {x1 x2 x3 x4 x5 x6 x7 x8 : Int32} : jm_w S 4 190 194 [.ref r0, .int x1, .int x2, .int x3, .int x4, .int x5, .int x6, .int x7, .int x8] [] H Q = jm_w S 4 190 201 [.ref r0, .int x1, .int x2, .int x3, .int x4, .int x5, .int x6, .int x7, .int x8] [.int (x3 + (1 : Int32))] H Q := (js1 at190_194 rfl rfl rfl).trans ((jsci at190_195 rfl rfl).trans ((js0 at190_196 rfl rfl rfl).trans (js2 at190_197 rfl rfl)))
theorem at190_200 : jm_at 190 200 = some (.iload_n 3) := rfl
theorem u190_200 {S : Option (Nat × (Nat → Int32))} {H : jm_H} {Q : Option Value → jm_H → Prop} {r0 : Nat} {x1 x2 x3 x4 x5 x6 x7 x8 : Int32} : jm_w S 4 190 200 [.ref r0, .int x1, .int x2, .int x3, .int x4, .int x5, .int x6, .int x7, .int x8] [] H Q = jm_w S 4 190 201 [.ref r0, .int x1, .int x2, .int x3, .int x4, .int x5, .int x6, .int x7, .int x8] [.int x3] H Q := js1 at190_200 rfl rfl rfl
theorem at190_201 : jm_at 190 201 = some (.ireturn) := rfl
theorem u190_201 {S : Option (Nat × (Nat → Int32))} {H : jm_H} {Q : Option Value → jm_H → Prop} {r0 : Nat} {x1 x2 x3 x4 x5 x6 x7 x8 p0 : Int32} : jm_w S 4 190 201 [.ref r0, .int x1, .int x2, .int x3, .int x4, .int x5, .int x6, .int x7, .int x8] [.int p0] H Q = Q (some (.int p0)) H := jsret_i at190_201 rfl
theorem en190 {S : Option (Nat × (Nat → Int32))} {H : jm_H} {Q : Option Value → jm_H → Prop} {r0 : Nat} {x1 x2 : Int32} : jm_c S 190 [.ref r0, .int x1, .int x2] H Q = jm_w S 4 190 0 [.ref r0, .int x1, .int x2, .null, .null, .null, .null, .null, .null] [] H Q := rfl
theorem at191_0 : jm_at 191 0 = some (.iconst 1) := rfl
theorem at191_1 : jm_at 191 1 = some (.iload_n 0) := rfl
theorem at191_2 : jm_at 191 2 = some (.iconst 1) := rfl
theorem at191_3 : jm_at 191 3 = some (.isub) := rfl
theorem at191_4 : jm_at 191 4 = some (.ishl) := rfl
theorem at191_5 : jm_at 191 5 = some (.ireturn) := rfl
theorem u191_0 {S : Option (Nat × (Nat → Int32))} {H : jm_H} {Q : Option Value → jm_H → Prop} {x0 : Int32} : jm_w S 1 191 0 [.int x0] [] H Q = Q (some (.int ((1 : Int32) <<< ((x0 - (1 : Int32)) &&& 31)))) H := (jsci at191_0 rfl rfl).trans ((js1 at191_1 rfl rfl rfl).trans ((jsci at191_2 rfl rfl).trans ((js0 at191_3 rfl rfl rfl).trans ((js0 at191_4 rfl rfl rfl).trans (jsret_i at191_5 rfl)))))
theorem en191 {S : Option (Nat × (Nat → Int32))} {H : jm_H} {Q : Option Value → jm_H → Prop} {x0 : Int32} : jm_c S 191 [.int x0] H Q = jm_w S 1 191 0 [.int x0] [] H Q := rfl
theorem at192_0 : jm_at 192 0 = some (.aload_n 0) := rfl
theorem at192_1 : jm_at 192 1 = some (.iload_n 1) := rfl
theorem at192_2 : jm_at 192 2 = some (.iload_n 2) := rfl
theorem at192_3 : jm_at 192 3 = some (.iload_n 3) := rfl
theorem at192_4 : jm_at 192 4 = some (.invokevirtual 345) := rfl
theorem rv192i_345 : jm_rv 192 (.invokevirtual 345) = (2, 193, 0, 0) := rfl
theorem u192_0 {S : Option (Nat × (Nat → Int32))} {H : jm_H} {Q : Option Value → jm_H → Prop} {r0 : Nat} {x1 x2 x3 : Int32} (h0 : jm_tg H r0 = 13) : jm_w S 3 192 0 [.ref r0, .int x1, .int x2, .int x3] [] H Q = jm_c S 193 [.ref r0, .int x1, .int x2, .int x3] H (fun v G => jm_w S 3 192 7 [.ref r0, .int x1, .int x2, .int x3] (v.toList ++ []) G Q) := (js1 at192_0 rfl rfl rfl).trans ((js1 at192_1 rfl rfl rfl).trans ((js1 at192_2 rfl rfl rfl).trans ((js1 at192_3 rfl rfl rfl).trans (jscall (H := H) (as := [.ref r0, .int x1, .int x2, .int x3]) (q := []) at192_4 rfl rv192i_345 (jscutV rfl rfl rfl (Nat.le_of_ble_eq_true rfl) rfl h0) rfl (Nat.le_of_ble_eq_true rfl) rfl rfl))))
theorem at192_7 : jm_at 192 7 = some (.aload_n 0) := rfl
theorem at192_8 : jm_at 192 8 = some (.getfield 358) := rfl
theorem rv192g_358 : jm_rv 192 (.getfield 358) = (0, 12, 53, 0) := rfl
theorem at192_11 : jm_at 192 11 = some (.iconst 1) := rfl
theorem at192_12 : jm_at 192 12 = some (.if_icmp .ne 34) := rfl
theorem u192_7 {S : Option (Nat × (Nat → Int32))} {H : jm_H} {Q : Option Value → jm_H → Prop} {r0 : Nat} {x1 x2 x3 : Int32} (h0 : jm_tg H r0 = 13) : jm_w S 3 192 7 [.ref r0, .int x1, .int x2, .int x3] [] H Q = if ¬ (jm_I H r0 53) = (1 : Int32) then jm_w S 3 192 46 [.ref r0, .int x1, .int x2, .int x3] [] H Q else jm_w S 3 192 15 [.ref r0, .int x1, .int x2, .int x3] [] H Q := (js1 at192_7 rfl rfl rfl).trans ((jsgI (H := H) at192_8 rv192g_358 (Or.inl rfl) h0 rfl).trans ((jsci at192_11 rfl rfl).trans (jsif (P := ¬ (jm_I H r0 53) = (1 : Int32)) at192_12 rfl rfl)))
theorem at192_15 : jm_at 192 15 = some (.aload_n 0) := rfl
theorem at192_16 : jm_at 192 16 = some (.getfield 361) := rfl
theorem rv192g_361 : jm_rv 192 (.getfield 361) = (0, 12, 54, 0) := rfl
theorem at192_19 : jm_at 192 19 = some (.aload_n 0) := rfl
theorem at192_20 : jm_at 192 20 = some (.getfield 365) := rfl
theorem rv192g_365 : jm_rv 192 (.getfield 365) = (0, 12, 55, 0) := rfl
theorem at192_23 : jm_at 192 23 = some (.aload_n 0) := rfl
theorem at192_24 : jm_at 192 24 = some (.getfield 368) := rfl
theorem rv192g_368 : jm_rv 192 (.getfield 368) = (0, 12, 56, 0) := rfl
theorem at192_27 : jm_at 192 27 = some (.aload_n 0) := rfl
theorem at192_28 : jm_at 192 28 = some (.getfield 328) := rfl
theorem rv192g_328 : jm_rv 192 (.getfield 328) = (0, 12, 48, 0) := rfl
theorem at192_31 : jm_at 192 31 = some (.i2l) := rfl
theorem at192_32 : jm_at 192 32 = some (.lmul) := rfl
theorem at192_33 : jm_at 192 33 = some (.aload_n 0) := rfl
theorem at192_34 : jm_at 192 34 = some (.getfield 371) := rfl
theorem rv192g_371 : jm_rv 192 (.getfield 371) = (0, 12, 57, 0) := rfl
theorem at192_37 : jm_at 192 37 = some (.aload_n 0) := rfl
theorem at192_38 : jm_at 192 38 = some (.getfield 331) := rfl
theorem rv192g_331 : jm_rv 192 (.getfield 331) = (0, 12, 49, 0) := rfl
theorem at192_41 : jm_at 192 41 = some (.iadd) := rfl
theorem at192_42 : jm_at 192 42 = some (.invokestatic 374) := rfl
theorem rv192i_374 : jm_rv 192 (.invokestatic 374) = (1, 196, 0, 0) := rfl
theorem u192_15 {S : Option (Nat × (Nat → Int32))} {H : jm_H} {Q : Option Value → jm_H → Prop} {r0 : Nat} {x1 x2 x3 : Int32} (h0 : jm_tg H r0 = 13) : jm_w S 3 192 15 [.ref r0, .int x1, .int x2, .int x3] [] H Q = jm_c S 196 [.long (jm_L H r0 54), .int (jm_I H r0 55), .long ((jm_L H r0 56) * (Int32.toInt64 (jm_I H r0 48))), .int ((jm_I H r0 57) + (jm_I H r0 49))] H (fun v G => jm_w S 3 192 45 [.ref r0, .int x1, .int x2, .int x3] (v.toList ++ []) G Q) := (js1 at192_15 rfl rfl rfl).trans ((jsgL (H := H) at192_16 rv192g_361 rfl h0 rfl).trans ((js1 at192_19 rfl rfl rfl).trans ((jsgI (H := H) at192_20 rv192g_365 (Or.inl rfl) h0 rfl).trans ((js1 at192_23 rfl rfl rfl).trans ((jsgL (H := H) at192_24 rv192g_368 rfl h0 rfl).trans ((js1 at192_27 rfl rfl rfl).trans ((jsgI (H := H) at192_28 rv192g_328 (Or.inl rfl) h0 rfl).trans ((js0 at192_31 rfl rfl rfl).trans ((js0 at192_32 rfl rfl rfl).trans ((js1 at192_33 rfl rfl rfl).trans ((jsgI (H := H) at192_34 rv192g_371 (Or.inl rfl) h0 rfl).trans ((js1 at192_37 rfl rfl rfl).trans ((jsgI (H := H) at192_38 rv192g_331 (Or.inl rfl) h0 rfl).trans ((js0 at192_41 rfl rfl rfl).trans (jscall (H := H) (as := [.long (jm_L H r0 54), .int (jm_I H r0 55), .long ((jm_L H r0 56) * (Int32.toInt64 (jm_I H r0 48))), .int ((jm_I H r0 57) + (jm_I H r0 49))]) (q := []) at192_42 rfl rv192i_374 (jscut rfl rfl rfl (Nat.le_of_ble_eq_true rfl)) rfl (Nat.le_of_ble_eq_true rfl) rfl rfl)))))))))))))))
theorem at192_45 : jm_at 192 45 = some (.ireturn) := rfl
theorem u192_45 {S : Option (Nat × (Nat → Int32))} {H : jm_H} {Q : Option Value → jm_H → Prop} {r0 : Nat} {x1 x2 x3 p0 : Int32} : jm_w S 3 192 45 [.ref r0, .int x1, .int x2, .int x3] [.int p0] H Q = Q (some (.int p0)) H := jsret_i at192_45 rfl
theorem at192_46 : jm_at 192 46 = some (.aload_n 0) := rfl
theorem at192_47 : jm_at 192 47 = some (.getfield 358) := rfl
theorem at192_50 : jm_at 192 50 = some (.iconst 2) := rfl
theorem at192_51 : jm_at 192 51 = some (.if_icmp .ne 32) := rfl
theorem u192_46 {S : Option (Nat × (Nat → Int32))} {H : jm_H} {Q : Option Value → jm_H → Prop} {r0 : Nat} {x1 x2 x3 : Int32} (h0 : jm_tg H r0 = 13) : jm_w S 3 192 46 [.ref r0, .int x1, .int x2, .int x3] [] H Q = if ¬ (jm_I H r0 53) = (2 : Int32) then jm_w S 3 192 83 [.ref r0, .int x1, .int x2, .int x3] [] H Q else jm_w S 3 192 54 [.ref r0, .int x1, .int x2, .int x3] [] H Q := (js1 at192_46 rfl rfl rfl).trans ((jsgI (H := H) at192_47 rv192g_358 (Or.inl rfl) h0 rfl).trans ((jsci at192_50 rfl rfl).trans (jsif (P := ¬ (jm_I H r0 53) = (2 : Int32)) at192_51 rfl rfl)))
theorem at192_54 : jm_at 192 54 = some (.aload_n 0) := rfl
theorem at192_55 : jm_at 192 55 = some (.getfield 361) := rfl
theorem at192_58 : jm_at 192 58 = some (.aload_n 0) := rfl
theorem at192_59 : jm_at 192 59 = some (.getfield 365) := rfl
theorem at192_62 : jm_at 192 62 = some (.aload_n 0) := rfl
theorem at192_63 : jm_at 192 63 = some (.getfield 328) := rfl
theorem at192_66 : jm_at 192 66 = some (.i2l) := rfl
theorem at192_67 : jm_at 192 67 = some (.aload_n 0) := rfl
theorem at192_68 : jm_at 192 68 = some (.getfield 328) := rfl
theorem at192_71 : jm_at 192 71 = some (.i2l) := rfl
theorem at192_72 : jm_at 192 72 = some (.lmul) := rfl
theorem at192_73 : jm_at 192 73 = some (.iconst 2) := rfl
theorem at192_74 : jm_at 192 74 = some (.aload_n 0) := rfl
theorem at192_75 : jm_at 192 75 = some (.getfield 331) := rfl
theorem at192_78 : jm_at 192 78 = some (.imul) := rfl
theorem at192_79 : jm_at 192 79 = some (.invokestatic 374) := rfl
theorem u192_54 {S : Option (Nat × (Nat → Int32))} {H : jm_H} {Q : Option Value → jm_H → Prop} {r0 : Nat} {x1 x2 x3 : Int32} (h0 : jm_tg H r0 = 13) : jm_w S 3 192 54 [.ref r0, .int x1, .int x2, .int x3] [] H Q = jm_c S 196 [.long (jm_L H r0 54), .int (jm_I H r0 55), .long ((Int32.toInt64 (jm_I H r0 48)) * (Int32.toInt64 (jm_I H r0 48))), .int ((2 : Int32) * (jm_I H r0 49))] H (fun v G => jm_w S 3 192 82 [.ref r0, .int x1, .int x2, .int x3] (v.toList ++ []) G Q) := (js1 at192_54 rfl rfl rfl).trans ((jsgL (H := H) at192_55 rv192g_361 rfl h0 rfl).trans ((js1 at192_58 rfl rfl rfl).trans ((jsgI (H := H) at192_59 rv192g_365 (Or.inl rfl) h0 rfl).trans ((js1 at192_62 rfl rfl rfl).trans ((jsgI (H := H) at192_63 rv192g_328 (Or.inl rfl) h0 rfl).trans ((js0 at192_66 rfl rfl rfl).trans ((js1 at192_67 rfl rfl rfl).trans ((jsgI (H := H) at192_68 rv192g_328 (Or.inl rfl) h0 rfl).trans ((js0 at192_71 rfl rfl rfl).trans ((js0 at192_72 rfl rfl rfl).trans ((jsci at192_73 rfl rfl).trans ((js1 at192_74 rfl rfl rfl).trans ((jsgI (H := H) at192_75 rv192g_331 (Or.inl rfl) h0 rfl).trans ((js0 at192_78 rfl rfl rfl).trans (jscall (H := H) (as := [.long (jm_L H r0 54), .int (jm_I H r0 55), .long ((Int32.toInt64 (jm_I H r0 48)) * (Int32.toInt64 (jm_I H r0 48))), .int ((2 : Int32) * (jm_I H r0 49))]) (q := []) at192_79 rfl rv192i_374 (jscut rfl rfl rfl (Nat.le_of_ble_eq_true rfl)) rfl (Nat.le_of_ble_eq_true rfl) rfl rfl)))))))))))))))
theorem at192_82 : jm_at 192 82 = some (.ireturn) := rfl
theorem u192_82 {S : Option (Nat × (Nat → Int32))} {H : jm_H} {Q : Option Value → jm_H → Prop} {r0 : Nat} {x1 x2 x3 p0 : Int32} : jm_w S 3 192 82 [.ref r0, .int x1, .int x2, .int x3] [.int p0] H Q = Q (some (.int p0)) H := jsret_i at192_82 rfl
theorem at192_83 : jm_at 192 83 = some (.aload_n 0) := rfl
theorem at192_84 : jm_at 192 84 = some (.getfield 95) := rfl
theorem rv192g_95 : jm_rv 192 (.getfield 95) = (0, 12, 51, 0) := rfl
theorem at192_87 : jm_at 192 87 = some (.aload_n 0) := rfl
theorem at192_88 : jm_at 192 88 = some (.getfield 328) := rfl
theorem at192_91 : jm_at 192 91 = some (.i2l) := rfl
theorem at192_92 : jm_at 192 92 = some (.aload_n 0) := rfl
theorem at192_93 : jm_at 192 93 = some (.getfield 331) := rfl
theorem at192_96 : jm_at 192 96 = some (.invokestatic 336) := rfl
theorem rv192i_336 : jm_rv 192 (.invokestatic 336) = (1, 198, 0, 0) := rfl
theorem u192_83 {S : Option (Nat × (Nat → Int32))} {H : jm_H} {Q : Option Value → jm_H → Prop} {r0 : Nat} {x1 x2 x3 : Int32} (h0 : jm_tg H r0 = 13) (h1 : ¬ jm_R H r0 51 = 0) : jm_w S 3 192 83 [.ref r0, .int x1, .int x2, .int x3] [] H Q = jm_c S 198 [.ref (jm_R H r0 51), .long (Int32.toInt64 (jm_I H r0 48)), .int (jm_I H r0 49)] H (fun v G => jm_w S 3 192 99 [.ref r0, .int x1, .int x2, .int x3] (v.toList ++ []) G Q) := (js1 at192_83 rfl rfl rfl).trans ((jsgR (H := H) at192_84 rv192g_95 rfl h0 h1 rfl).trans ((js1 at192_87 rfl rfl rfl).trans ((jsgI (H := H) at192_88 rv192g_328 (Or.inl rfl) h0 rfl).trans ((js0 at192_91 rfl rfl rfl).trans ((js1 at192_92 rfl rfl rfl).trans ((jsgI (H := H) at192_93 rv192g_331 (Or.inl rfl) h0 rfl).trans (jscall (H := H) (as := [.ref (jm_R H r0 51), .long (Int32.toInt64 (jm_I H r0 48)), .int (jm_I H r0 49)]) (q := []) at192_96 rfl rv192i_336 (jscut rfl rfl rfl (Nat.le_of_ble_eq_true rfl)) rfl (Nat.le_of_ble_eq_true rfl) rfl rfl)))))))
theorem at192_99 : jm_at 192 99 = some (.aload_n 0) := rfl
theorem at192_100 : jm_at 192 100 = some (.getfield 92) := rfl
theorem rv192g_92 : jm_rv 192 (.getfield 92) = (0, 12, 50, 0) := rfl
theorem at192_103 : jm_at 192 103 = some (.aload_n 0) := rfl
theorem at192_104 : jm_at 192 104 = some (.getfield 95) := rfl
theorem at192_107 : jm_at 192 107 = some (.invokestatic 341) := rfl
theorem rv192i_341 : jm_rv 192 (.invokestatic 341) = (1, 199, 0, 0) := rfl
theorem u192_99 {S : Option (Nat × (Nat → Int32))} {H : jm_H} {Q : Option Value → jm_H → Prop} {r0 : Nat} {x1 x2 x3 : Int32} (h0 : jm_tg H r0 = 13) (h1 : ¬ jm_R H r0 50 = 0) (h2 : ¬ jm_R H r0 51 = 0) : jm_w S 3 192 99 [.ref r0, .int x1, .int x2, .int x3] [] H Q = jm_c S 199 [.ref (jm_R H r0 50), .ref (jm_R H r0 51)] H (fun v G => jm_w S 3 192 110 [.ref r0, .int x1, .int x2, .int x3] (v.toList ++ []) G Q) := (js1 at192_99 rfl rfl rfl).trans ((jsgR (H := H) at192_100 rv192g_92 rfl h0 h1 rfl).trans ((js1 at192_103 rfl rfl rfl).trans ((jsgR (H := H) at192_104 rv192g_95 rfl h0 h2 rfl).trans (jscall (H := H) (as := [.ref (jm_R H r0 50), .ref (jm_R H r0 51)]) (q := []) at192_107 rfl rv192i_341 (jscut rfl rfl rfl (Nat.le_of_ble_eq_true rfl)) rfl (Nat.le_of_ble_eq_true rfl) rfl rfl))))
theorem at192_110 : jm_at 192 110 = some (.ireturn) := rfl
theorem u192_110 {S : Option (Nat × (Nat → Int32))} {H : jm_H} {Q : Option Value → jm_H → Prop} {r0 : Nat} {x1 x2 x3 p0 : Int32} : jm_w S 3 192 110 [.ref r0, .int x1, .int x2, .int x3] [.int p0] H Q = Q (some (.int p0)) H := jsret_i at192_110 rfl
theorem en192 {S : Option (Nat × (Nat → Int32))} {H : jm_H} {Q : Option Value → jm_H → Prop} {r0 : Nat} {x1 x2 x3 : Int32} : jm_c S 192 [.ref r0, .int x1, .int x2, .int x3] H Q = jm_w S 3 192 0 [.ref r0, .int x1, .int x2, .int x3] [] H Q := rfl
theorem at193_0 : jm_at 193 0 = some (.iload_n 3) := rfl
theorem at193_1 : jm_at 193 1 = some (.iload_n 1) := rfl
theorem at193_2 : jm_at 193 2 = some (.invokestatic 280) := rfl
theorem rv193i_280 : jm_rv 193 (.invokestatic 280) = (1, 191, 0, 0) := rfl
theorem u193_0 {S : Option (Nat × (Nat → Int32))} {H : jm_H} {Q : Option Value → jm_H → Prop} {r0 : Nat} {x1 x2 x3 : Int32} : jm_w S 2 193 0 [.ref r0, .int x1, .int x2, .int x3, .null, .null, .null, .null, .null] [] H Q = jm_c S 191 [.int x1] H (fun v G => jm_w S 2 193 5 [.ref r0, .int x1, .int x2, .int x3, .null, .null, .null, .null, .null] (v.toList ++ [.int x3]) G Q) := (js1 at193_0 rfl rfl rfl).trans ((js1 at193_1 rfl rfl rfl).trans (jscall (H := H) (as := [.int x1]) (q := [.int x3]) at193_2 rfl rv193i_280 (jscut rfl rfl rfl (Nat.le_of_ble_eq_true rfl)) rfl (Nat.le_of_ble_eq_true rfl) rfl rfl))
theorem at193_5 : jm_at 193 5 = some (.if_icmp .le 11) := rfl
theorem u193_5 {S : Option (Nat × (Nat → Int32))} {H : jm_H} {Q : Option Value → jm_H → Prop} {r0 : Nat} {x1 x2 x3 p0 p1 : Int32} : jm_w S 2 193 5 [.ref r0, .int x1, .int x2, .int x3, .null, .null, .null, .null, .null] [.int p1, .int p0] H Q = if p0 ≤ p1 then jm_w S 2 193 16 [.ref r0, .int x1, .int x2, .int x3, .null, .null, .null, .null, .null] [] H Q else jm_w S 2 193 8 [.ref r0, .int x1, .int x2, .int x3, .null, .null, .null, .null, .null] [] H Q := jsif (P := p0 ≤ p1) at193_5 rfl rfl
theorem at193_8 : jm_at 193 8 = some (.iload_n 1) := rfl
theorem at193_9 : jm_at 193 9 = some (.iload_n 3) := rfl
theorem at193_10 : jm_at 193 10 = some (.invokestatic 259) := rfl
theorem rv193i_259 : jm_rv 193 (.invokestatic 259) = (1, 194, 0, 0) := rfl
theorem u193_8 {S : Option (Nat × (Nat → Int32))} {H : jm_H} {Q : Option Value → jm_H → Prop} {r0 : Nat} {x1 x2 x3 : Int32} : jm_w S 2 193 8 [.ref r0, .int x1, .int x2, .int x3, .null, .null, .null, .null, .null] [] H Q = jm_c S 194 [.int x1, .int x3] H (fun v G => jm_w S 2 193 13 [.ref r0, .int x1, .int x2, .int x3, .null, .null, .null, .null, .null] (v.toList ++ []) G Q) := (js1 at193_8 rfl rfl rfl).trans ((js1 at193_9 rfl rfl rfl).trans (jscall (H := H) (as := [.int x1, .int x3]) (q := []) at193_10 rfl rv193i_259 (jscut rfl rfl rfl (Nat.le_of_ble_eq_true rfl)) rfl (Nat.le_of_ble_eq_true rfl) rfl rfl))
theorem at193_13 : jm_at 193 13 = some (.goto 4) := rfl
theorem u193_13 {S : Option (Nat × (Nat → Int32))} {H : jm_H} {Q : Option Value → jm_H → Prop} {r0 : Nat} {x1 x2 x3 p0 : Int32} : jm_w S 2 193 13 [.ref r0, .int x1, .int x2, .int x3, .null, .null, .null, .null, .null] [.int p0] H Q = jm_w S 2 193 17 [.ref r0, .int x1, .int x2, .int x3, .null, .null, .null, .null, .null] [.int p0] H Q := js2 at193_13 rfl rfl
theorem at193_16 : jm_at 193 16 = some (.iload_n 3) := rfl
theorem u193_16 {S : Option (Nat × (Nat → Int32))} {H : jm_H} {Q : Option Value → jm_H → Prop} {r0 : Nat} {x1 x2 x3 : Int32} : jm_w S 2 193 16 [.ref r0, .int x1, .int x2, .int x3, .null, .null, .null, .null, .null] [] H Q = jm_w S 2 193 17 [.ref r0, .int x1, .int x2, .int x3, .null, .null, .null, .null, .null] [.int x3] H Q := js1 at193_16 rfl rfl rfl
theorem at193_17 : jm_at 193 17 = some (.istore 4) := rfl
theorem at193_19 : jm_at 193 19 = some (.iload 4) := rfl
theorem at193_21 : jm_at 193 21 = some (.iload_n 1) := rfl
theorem at193_22 : jm_at 193 22 = some (.iconst 2) := rfl
theorem at193_23 : jm_at 193 23 = some (.isub) := rfl
theorem at193_24 : jm_at 193 24 = some (.invokestatic 310) := rfl
theorem rv193i_310 : jm_rv 193 (.invokestatic 310) = (1, 195, 0, 0) := rfl
theorem u193_17 {S : Option (Nat × (Nat → Int32))} {H : jm_H} {Q : Option Value → jm_H → Prop} {r0 : Nat} {x1 x2 x3 p0 : Int32} : jm_w S 2 193 17 [.ref r0, .int x1, .int x2, .int x3, .null, .null, .null, .null, .null] [.int p0] H Q = jm_c S 195 [.int p0, .int (x1 - (2 : Int32))] H (fun v G => jm_w S 2 193 27 [.ref r0, .int x1, .int x2, .int x3, .int p0, .null, .null, .null, .null] (v.toList ++ []) G Q) := (js1 at193_17 rfl rfl rfl).trans ((js1 at193_19 rfl rfl rfl).trans ((js1 at193_21 rfl rfl rfl).trans ((jsci at193_22 rfl rfl).trans ((js0 at193_23 rfl rfl rfl).trans (jscall (H := H) (as := [.int p0, .int (x1 - (2 : Int32))]) (q := []) at193_24 rfl rv193i_310 (jscut rfl rfl rfl (Nat.le_of_ble_eq_true rfl)) rfl (Nat.le_of_ble_eq_true rfl) rfl rfl)))))
theorem at193_27 : jm_at 193 27 = some (.istore 5) := rfl
theorem at193_29 : jm_at 193 29 = some (.iload_n 1) := rfl
theorem at193_30 : jm_at 193 30 = some (.iconst 2) := rfl
theorem at193_31 : jm_at 193 31 = some (.isub) := rfl
theorem at193_32 : jm_at 193 32 = some (.istore 6) := rfl
theorem u193_27 {S : Option (Nat × (Nat → Int32))} {H : jm_H} {Q : Option Value → jm_H → Prop} {r0 : Nat} {x1 x2 x3 x4 p0 : Int32} : jm_w S 2 193 27 [.ref r0, .int x1, .int x2, .int x3, .int x4, .null, .null, .null, .null] [.int p0] H Q = jm_w S 2 193 34 [.ref r0, .int x1, .int x2, .int x3, .int x4, .int p0, .int (x1 - (2 : Int32)), .null, .null] [] H Q := (js1 at193_27 rfl rfl rfl).trans ((js1 at193_29 rfl rfl rfl).trans ((jsci at193_30 rfl rfl).trans ((js0 at193_31 rfl rfl rfl).trans (js1 at193_32 rfl rfl rfl))))
theorem at193_34 : jm_at 193 34 = some (.iload 6) := rfl
theorem at193_36 : jm_at 193 36 = some (.ifCond .lt 21) := rfl
theorem u193_34 {S : Option (Nat × (Nat → Int32))} {H : jm_H} {Q : Option Value → jm_H → Prop} {r0 : Nat} {x1 x2 x3 x4 x5 x6 : Int32} : jm_w S 2 193 34 [.ref r0, .int x1, .int x2, .int x3, .int x4, .int x5, .int x6, .null, .null] [] H Q = if x6 < 0 then jm_w S 2 193 57 [.ref r0, .int x1, .int x2, .int x3, .int x4, .int x5, .int x6, .null, .null] [] H Q else jm_w S 2 193 39 [.ref r0, .int x1, .int x2, .int x3, .int x4, .int x5, .int x6, .null, .null] [] H Q := (js1 at193_34 rfl rfl rfl).trans (jsif (P := x6 < 0) at193_36 rfl rfl)
theorem at193_39 : jm_at 193 39 = some (.iload 4) := rfl
theorem at193_41 : jm_at 193 41 = some (.iload 6) := rfl
theorem at193_43 : jm_at 193 43 = some (.invokestatic 310) := rfl
theorem u193_39 {S : Option (Nat × (Nat → Int32))} {H : jm_H} {Q : Option Value → jm_H → Prop} {r0 : Nat} {x1 x2 x3 x4 x5 x6 : Int32} : jm_w S 2 193 39 [.ref r0, .int x1, .int x2, .int x3, .int x4, .int x5, .int x6, .null, .null] [] H Q = jm_c S 195 [.int x4, .int x6] H (fun v G => jm_w S 2 193 46 [.ref r0, .int x1, .int x2, .int x3, .int x4, .int x5, .int x6, .null, .null] (v.toList ++ []) G Q) := (js1 at193_39 rfl rfl rfl).trans ((js1 at193_41 rfl rfl rfl).trans (jscall (H := H) (as := [.int x4, .int x6]) (q := []) at193_43 rfl rv193i_310 (jscut rfl rfl rfl (Nat.le_of_ble_eq_true rfl)) rfl (Nat.le_of_ble_eq_true rfl) rfl rfl))
theorem at193_46 : jm_at 193 46 = some (.iload 5) := rfl
theorem at193_48 : jm_at 193 48 = some (.if_icmp .ne 9) := rfl
theorem u193_46 {S : Option (Nat × (Nat → Int32))} {H : jm_H} {Q : Option Value → jm_H → Prop} {r0 : Nat} {x1 x2 x3 x4 x5 x6 p0 : Int32} : jm_w S 2 193 46 [.ref r0, .int x1, .int x2, .int x3, .int x4, .int x5, .int x6, .null, .null] [.int p0] H Q = if ¬ p0 = x5 then jm_w S 2 193 57 [.ref r0, .int x1, .int x2, .int x3, .int x4, .int x5, .int x6, .null, .null] [] H Q else jm_w S 2 193 51 [.ref r0, .int x1, .int x2, .int x3, .int x4, .int x5, .int x6, .null, .null] [] H Q := (js1 at193_46 rfl rfl rfl).trans (jsif (P := ¬ p0 = x5) at193_48 rfl rfl)
theorem at193_51 : jm_at 193 51 = some (.iinc 6 (-1)) := rfl
theorem at193_54 : jm_at 193 54 = some (.goto (-20)) := rfl
theorem u193_51 {S : Option (Nat × (Nat → Int32))} {H : jm_H} {Q : Option Value → jm_H → Prop} {r0 : Nat} {x1 x2 x3 x4 x5 x6 : Int32} : jm_w S 2 193 51 [.ref r0, .int x1, .int x2, .int x3, .int x4, .int x5, .int x6, .null, .null] [] H Q = jm_w S 2 193 34 [.ref r0, .int x1, .int x2, .int x3, .int x4, .int x5, .int (x6 + (-1)), .null, .null] [] H Q := (jsinc at193_51 rfl rfl rfl).trans (js2 at193_54 rfl rfl)
theorem at193_57 : jm_at 193 57 = some (.aload_n 0) := rfl
theorem at193_58 : jm_at 193 58 = some (.iload_n 1) := rfl
theorem at193_59 : jm_at 193 59 = some (.iconst 2) := rfl
theorem at193_60 : jm_at 193 60 = some (.isub) := rfl
theorem at193_61 : jm_at 193 61 = some (.iload 6) := rfl
theorem at193_63 : jm_at 193 63 = some (.isub) := rfl
theorem at193_64 : jm_at 193 64 = some (.putfield 313) := rfl
theorem rv193p_313 : jm_rv 193 (.putfield 313) = (0, 12, 43, 0) := rfl
theorem at193_67 : jm_at 193 67 = some (.aload_n 0) := rfl
theorem at193_68 : jm_at 193 68 = some (.iload 5) := rfl
theorem at193_70 : jm_at 193 70 = some (.ifCond .eq 12) := rfl
theorem u193_57 {S : Option (Nat × (Nat → Int32))} {H : jm_H} {Q : Option Value → jm_H → Prop} {r0 : Nat} {x1 x2 x3 x4 x5 x6 : Int32} (h0 : jm_tg H r0 = 13) : jm_w S 2 193 57 [.ref r0, .int x1, .int x2, .int x3, .int x4, .int x5, .int x6, .null, .null] [] H Q = if x5 = 0 then jm_w S 2 193 82 [.ref r0, .int x1, .int x2, .int x3, .int x4, .int x5, .int x6, .null, .null] [.ref r0] (jm_pI H r0 43 ((x1 - (2 : Int32)) - x6)) Q else jm_w S 2 193 73 [.ref r0, .int x1, .int x2, .int x3, .int x4, .int x5, .int x6, .null, .null] [.ref r0] (jm_pI H r0 43 ((x1 - (2 : Int32)) - x6)) Q := (js1 at193_57 rfl rfl rfl).trans ((js1 at193_58 rfl rfl rfl).trans ((jsci at193_59 rfl rfl).trans ((js0 at193_60 rfl rfl rfl).trans ((js1 at193_61 rfl rfl rfl).trans ((js0 at193_63 rfl rfl rfl).trans ((jspI (H := H) at193_64 rv193p_313 rfl h0 rfl).trans ((js1 at193_67 rfl rfl rfl).trans ((js1 at193_68 rfl rfl rfl).trans (jsif (P := x5 = 0) at193_70 rfl rfl)))))))))
theorem at193_73 : jm_at 193 73 = some (.aload_n 0) := rfl
theorem at193_74 : jm_at 193 74 = some (.getfield 313) := rfl
theorem rv193g_313 : jm_rv 193 (.getfield 313) = (0, 12, 43, 0) := rfl
theorem at193_77 : jm_at 193 77 = some (.iconst 1) := rfl
theorem at193_78 : jm_at 193 78 = some (.isub) := rfl
theorem at193_79 : jm_at 193 79 = some (.goto 8) := rfl
theorem u193_73 {S : Option (Nat × (Nat → Int32))} {H : jm_H} {Q : Option Value → jm_H → Prop} {r0 o0 : Nat} {x1 x2 x3 x4 x5 x6 : Int32} (h0 : jm_tg H r0 = 13) : jm_w S 2 193 73 [.ref r0, .int x1, .int x2, .int x3, .int x4, .int x5, .int x6, .null, .null] [.ref o0] H Q = jm_w S 2 193 87 [.ref r0, .int x1, .int x2, .int x3, .int x4, .int x5, .int x6, .null, .null] [.int ((jm_I H r0 43) - (1 : Int32)), .ref o0] H Q := (js1 at193_73 rfl rfl rfl).trans ((jsgI (H := H) at193_74 rv193g_313 (Or.inl rfl) h0 rfl).trans ((jsci at193_77 rfl rfl).trans ((js0 at193_78 rfl rfl rfl).trans (js2 at193_79 rfl rfl))))
theorem at193_82 : jm_at 193 82 = some (.aload_n 0) := rfl
theorem at193_83 : jm_at 193 83 = some (.getfield 313) := rfl
theorem at193_86 : jm_at 193 86 = some (.ineg) := rfl
theorem u193_82 {S : Option (Nat × (Nat → Int32))} {H : jm_H} {Q : Option Value → jm_H → Prop} {r0 o0 : Nat} {x1 x2 x3 x4 x5 x6 : Int32} (h0 : jm_tg H r0 = 13) : jm_w S 2 193 82 [.ref r0, .int x1, .int x2, .int x3, .int x4, .int x5, .int x6, .null, .null] [.ref o0] H Q = jm_w S 2 193 87 [.ref r0, .int x1, .int x2, .int x3, .int x4, .int x5, .int x6, .null, .null] [.int (-(jm_I H r0 43)), .ref o0] H Q := (js1 at193_82 rfl rfl rfl).trans ((jsgI (H := H) at193_83 rv193g_313 (Or.inl rfl) h0 rfl).trans (js0 at193_86 rfl rfl rfl))
theorem at193_87 : jm_at 193 87 = some (.putfield 316) := rfl
theorem rv193p_316 : jm_rv 193 (.putfield 316) = (0, 12, 44, 0) := rfl
theorem at193_90 : jm_at 193 90 = some (.iload 6) := rfl
theorem at193_92 : jm_at 193 92 = some (.ifCond .ge 7) := rfl
theorem u193_87 {S : Option (Nat × (Nat → Int32))} {H : jm_H} {Q : Option Value → jm_H → Prop} {r0 o0 : Nat} {x1 x2 x3 x4 x5 x6 p1 : Int32} (h0 : jm_tg H o0 = 13) : jm_w S 2 193 87 [.ref r0, .int x1, .int x2, .int x3, .int x4, .int x5, .int x6, .null, .null] [.int p1, .ref o0] H Q = if 0 ≤ x6 then jm_w S 2 193 99 [.ref r0, .int x1, .int x2, .int x3, .int x4, .int x5, .int x6, .null, .null] [] (jm_pI H o0 44 p1) Q else jm_w S 2 193 95 [.ref r0, .int x1, .int x2, .int x3, .int x4, .int x5, .int x6, .null, .null] [] (jm_pI H o0 44 p1) Q := (jspI (H := H) at193_87 rv193p_316 rfl h0 rfl).trans ((js1 at193_90 rfl rfl rfl).trans (jsif (P := 0 ≤ x6) at193_92 rfl rfl))
theorem at193_95 : jm_at 193 95 = some (.iconst 0) := rfl
theorem at193_96 : jm_at 193 96 = some (.goto 5) := rfl
theorem u193_95 {S : Option (Nat × (Nat → Int32))} {H : jm_H} {Q : Option Value → jm_H → Prop} {r0 : Nat} {x1 x2 x3 x4 x5 x6 : Int32} : jm_w S 2 193 95 [.ref r0, .int x1, .int x2, .int x3, .int x4, .int x5, .int x6, .null, .null] [] H Q = jm_w S 2 193 101 [.ref r0, .int x1, .int x2, .int x3, .int x4, .int x5, .int x6, .null, .null] [.int (0 : Int32)] H Q := (jsci at193_95 rfl rfl).trans (js2 at193_96 rfl rfl)
theorem at193_99 : jm_at 193 99 = some (.iload 6) := rfl
theorem u193_99 {S : Option (Nat × (Nat → Int32))} {H : jm_H} {Q : Option Value → jm_H → Prop} {r0 : Nat} {x1 x2 x3 x4 x5 x6 : Int32} : jm_w S 2 193 99 [.ref r0, .int x1, .int x2, .int x3, .int x4, .int x5, .int x6, .null, .null] [] H Q = jm_w S 2 193 101 [.ref r0, .int x1, .int x2, .int x3, .int x4, .int x5, .int x6, .null, .null] [.int x6] H Q := js1 at193_99 rfl rfl rfl
theorem at193_101 : jm_at 193 101 = some (.istore 7) := rfl
theorem at193_103 : jm_at 193 103 = some (.iload 4) := rfl
theorem at193_105 : jm_at 193 105 = some (.iconst 1) := rfl
theorem at193_106 : jm_at 193 106 = some (.iload 7) := rfl
theorem at193_108 : jm_at 193 108 = some (.ishl) := rfl
theorem at193_109 : jm_at 193 109 = some (.iconst 1) := rfl
theorem at193_110 : jm_at 193 110 = some (.isub) := rfl
theorem at193_111 : jm_at 193 111 = some (.iand) := rfl
theorem at193_112 : jm_at 193 112 = some (.istore 8) := rfl
theorem at193_114 : jm_at 193 114 = some (.aload_n 0) := rfl
theorem at193_115 : jm_at 193 115 = some (.iload 7) := rfl
theorem at193_117 : jm_at 193 117 = some (.iload_n 2) := rfl
theorem at193_118 : jm_at 193 118 = some (.if_icmp .le 10) := rfl
theorem u193_101 {S : Option (Nat × (Nat → Int32))} {H : jm_H} {Q : Option Value → jm_H → Prop} {r0 : Nat} {x1 x2 x3 x4 x5 x6 p0 : Int32} : jm_w S 2 193 101 [.ref r0, .int x1, .int x2, .int x3, .int x4, .int x5, .int x6, .null, .null] [.int p0] H Q = if p0 ≤ x2 then jm_w S 2 193 128 [.ref r0, .int x1, .int x2, .int x3, .int x4, .int x5, .int x6, .int p0, .int (x4 &&& (((1 : Int32) <<< (p0 &&& 31)) - (1 : Int32)))] [.ref r0] H Q else jm_w S 2 193 121 [.ref r0, .int x1, .int x2, .int x3, .int x4, .int x5, .int x6, .int p0, .int (x4 &&& (((1 : Int32) <<< (p0 &&& 31)) - (1 : Int32)))] [.ref r0] H Q := (js1 at193_101 rfl rfl rfl).trans ((js1 at193_103 rfl rfl rfl).trans ((jsci at193_105 rfl rfl).trans ((js1 at193_106 rfl rfl rfl).trans ((js0 at193_108 rfl rfl rfl).trans ((jsci at193_109 rfl rfl).trans ((js0 at193_110 rfl rfl rfl).trans ((js0 at193_111 rfl rfl rfl).trans ((js1 at193_112 rfl rfl rfl).trans ((js1 at193_114 rfl rfl rfl).trans ((js1 at193_115 rfl rfl rfl).trans ((js1 at193_117 rfl rfl rfl).trans (jsif (P := p0 ≤ x2) at193_118 rfl rfl))))))))))))
theorem at193_121 : jm_at 193 121 = some (.iload 7) := rfl
theorem at193_123 : jm_at 193 123 = some (.iload_n 2) := rfl
theorem at193_124 : jm_at 193 124 = some (.isub) := rfl
theorem at193_125 : jm_at 193 125 = some (.goto 4) := rfl
theorem u193_121 {S : Option (Nat × (Nat → Int32))} {H : jm_H} {Q : Option Value → jm_H → Prop} {r0 o0 : Nat} {x1 x2 x3 x4 x5 x6 x7 x8 : Int32} : jm_w S 2 193 121 [.ref r0, .int x1, .int x2, .int x3, .int x4, .int x5, .int x6, .int x7, .int x8] [.ref o0] H Q = jm_w S 2 193 129 [.ref r0, .int x1, .int x2, .int x3, .int x4, .int x5, .int x6, .int x7, .int x8] [.int (x7 - x2), .ref o0] H Q := (js1 at193_121 rfl rfl rfl).trans ((js1 at193_123 rfl rfl rfl).trans ((js0 at193_124 rfl rfl rfl).trans (js2 at193_125 rfl rfl)))
theorem at193_128 : jm_at 193 128 = some (.iconst 0) := rfl
theorem u193_128 {S : Option (Nat × (Nat → Int32))} {H : jm_H} {Q : Option Value → jm_H → Prop} {r0 o0 : Nat} {x1 x2 x3 x4 x5 x6 x7 x8 : Int32} : jm_w S 2 193 128 [.ref r0, .int x1, .int x2, .int x3, .int x4, .int x5, .int x6, .int x7, .int x8] [.ref o0] H Q = jm_w S 2 193 129 [.ref r0, .int x1, .int x2, .int x3, .int x4, .int x5, .int x6, .int x7, .int x8] [.int (0 : Int32), .ref o0] H Q := jsci at193_128 rfl rfl
theorem at193_129 : jm_at 193 129 = some (.putfield 319) := rfl
theorem rv193p_319 : jm_rv 193 (.putfield 319) = (0, 12, 46, 0) := rfl
theorem at193_132 : jm_at 193 132 = some (.aload_n 0) := rfl
theorem at193_133 : jm_at 193 133 = some (.iload 7) := rfl
theorem at193_135 : jm_at 193 135 = some (.iload_n 2) := rfl
theorem at193_136 : jm_at 193 136 = some (.if_icmp .lt 13) := rfl
theorem u193_129 {S : Option (Nat × (Nat → Int32))} {H : jm_H} {Q : Option Value → jm_H → Prop} {r0 o0 : Nat} {x1 x2 x3 x4 x5 x6 x7 x8 p1 : Int32} (h0 : jm_tg H o0 = 13) : jm_w S 2 193 129 [.ref r0, .int x1, .int x2, .int x3, .int x4, .int x5, .int x6, .int x7, .int x8] [.int p1, .ref o0] H Q = if x7 < x2 then jm_w S 2 193 149 [.ref r0, .int x1, .int x2, .int x3, .int x4, .int x5, .int x6, .int x7, .int x8] [.ref r0] (jm_pI H o0 46 p1) Q else jm_w S 2 193 139 [.ref r0, .int x1, .int x2, .int x3, .int x4, .int x5, .int x6, .int x7, .int x8] [.ref r0] (jm_pI H o0 46 p1) Q := (jspI (H := H) at193_129 rv193p_319 rfl h0 rfl).trans ((js1 at193_132 rfl rfl rfl).trans ((js1 at193_133 rfl rfl rfl).trans ((js1 at193_135 rfl rfl rfl).trans (jsif (P := x7 < x2) at193_136 rfl rfl))))
theorem at193_139 : jm_at 193 139 = some (.iload 8) := rfl
theorem at193_141 : jm_at 193 141 = some (.iload 7) := rfl
theorem at193_143 : jm_at 193 143 = some (.iload_n 2) := rfl
theorem at193_144 : jm_at 193 144 = some (.isub) := rfl
theorem at193_145 : jm_at 193 145 = some (.ishr) := rfl
theorem at193_146 : jm_at 193 146 = some (.goto 10) := rfl
theorem u193_139 {S : Option (Nat × (Nat → Int32))} {H : jm_H} {Q : Option Value → jm_H → Prop} {r0 o0 : Nat} {x1 x2 x3 x4 x5 x6 x7 x8 : Int32} : jm_w S 2 193 139 [.ref r0, .int x1, .int x2, .int x3, .int x4, .int x5, .int x6, .int x7, .int x8] [.ref o0] H Q = jm_w S 2 193 156 [.ref r0, .int x1, .int x2, .int x3, .int x4, .int x5, .int x6, .int x7, .int x8] [.int (x8 >>> ((x7 - x2) &&& 31)), .ref o0] H Q := (js1 at193_139 rfl rfl rfl).trans ((js1 at193_141 rfl rfl rfl).trans ((js1 at193_143 rfl rfl rfl).trans ((js0 at193_144 rfl rfl rfl).trans ((js0 at193_145 rfl rfl rfl).trans (js2 at193_146 rfl rfl)))))
theorem at193_149 : jm_at 193 149 = some (.iload 8) := rfl
theorem at193_151 : jm_at 193 151 = some (.iload_n 2) := rfl
theorem at193_152 : jm_at 193 152 = some (.iload 7) := rfl
theorem at193_154 : jm_at 193 154 = some (.isub) := rfl
theorem at193_155 : jm_at 193 155 = some (.ishl) := rfl
theorem u193_149 {S : Option (Nat × (Nat → Int32))} {H : jm_H} {Q : Option Value → jm_H → Prop} {r0 o0 : Nat} {x1 x2 x3 x4 x5 x6 x7 x8 : Int32} : jm_w S 2 193 149 [.ref r0, .int x1, .int x2, .int x3, .int x4, .int x5, .int x6, .int x7, .int x8] [.ref o0] H Q = jm_w S 2 193 156 [.ref r0, .int x1, .int x2, .int x3, .int x4, .int x5, .int x6, .int x7, .int x8] [.int (x8 <<< ((x2 - x7) &&& 31)), .ref o0] H Q := (js1 at193_149 rfl rfl rfl).trans ((js1 at193_151 rfl rfl rfl).trans ((js1 at193_152 rfl rfl rfl).trans ((js0 at193_154 rfl rfl rfl).trans (js0 at193_155 rfl rfl rfl))))
theorem at193_156 : jm_at 193 156 = some (.putfield 322) := rfl
theorem rv193p_322 : jm_rv 193 (.putfield 322) = (0, 12, 45, 0) := rfl
theorem at193_159 : jm_at 193 159 = some (.aload_n 0) := rfl
theorem at193_160 : jm_at 193 160 = some (.iload 8) := rfl
theorem at193_162 : jm_at 193 162 = some (.iconst 1) := rfl
theorem at193_163 : jm_at 193 163 = some (.aload_n 0) := rfl
theorem at193_164 : jm_at 193 164 = some (.getfield 319) := rfl
theorem rv193g_319 : jm_rv 193 (.getfield 319) = (0, 12, 46, 0) := rfl
theorem at193_167 : jm_at 193 167 = some (.ishl) := rfl
theorem at193_168 : jm_at 193 168 = some (.iconst 1) := rfl
theorem at193_169 : jm_at 193 169 = some (.isub) := rfl
theorem at193_170 : jm_at 193 170 = some (.iand) := rfl
theorem at193_171 : jm_at 193 171 = some (.putfield 325) := rfl
theorem rv193p_325 : jm_rv 193 (.putfield 325) = (0, 12, 47, 0) := rfl
theorem at193_174 : jm_at 193 174 = some (.aload_n 0) := rfl
theorem at193_175 : jm_at 193 175 = some (.iconst 1) := rfl
theorem at193_176 : jm_at 193 176 = some (.aload_n 0) := rfl
theorem at193_177 : jm_at 193 177 = some (.getfield 319) := rfl
theorem at193_180 : jm_at 193 180 = some (.ishl) := rfl
theorem at193_181 : jm_at 193 181 = some (.aload_n 0) := rfl
theorem at193_182 : jm_at 193 182 = some (.getfield 325) := rfl
theorem rv193g_325 : jm_rv 193 (.getfield 325) = (0, 12, 47, 0) := rfl
theorem at193_185 : jm_at 193 185 = some (.iadd) := rfl
theorem at193_186 : jm_at 193 186 = some (.putfield 328) := rfl
theorem rv193p_328 : jm_rv 193 (.putfield 328) = (0, 12, 48, 0) := rfl
theorem at193_189 : jm_at 193 189 = some (.aload_n 0) := rfl
theorem at193_190 : jm_at 193 190 = some (.aload_n 0) := rfl
theorem at193_191 : jm_at 193 191 = some (.getfield 316) := rfl
theorem rv193g_316 : jm_rv 193 (.getfield 316) = (0, 12, 44, 0) := rfl
theorem at193_194 : jm_at 193 194 = some (.iconst 1) := rfl
theorem at193_195 : jm_at 193 195 = some (.iload_n 2) := rfl
theorem at193_196 : jm_at 193 196 = some (.ishl) := rfl
theorem at193_197 : jm_at 193 197 = some (.imul) := rfl
theorem at193_198 : jm_at 193 198 = some (.aload_n 0) := rfl
theorem at193_199 : jm_at 193 199 = some (.getfield 322) := rfl
theorem rv193g_322 : jm_rv 193 (.getfield 322) = (0, 12, 45, 0) := rfl
theorem at193_202 : jm_at 193 202 = some (.iadd) := rfl
theorem at193_203 : jm_at 193 203 = some (.aload_n 0) := rfl
theorem at193_204 : jm_at 193 204 = some (.getfield 319) := rfl
theorem at193_207 : jm_at 193 207 = some (.isub) := rfl
theorem at193_208 : jm_at 193 208 = some (.putfield 331) := rfl
theorem rv193p_331 : jm_rv 193 (.putfield 331) = (0, 12, 49, 0) := rfl
theorem at193_211 : jm_at 193 211 = some (.return_) := rfl
theorem u193_156 {S : Option (Nat × (Nat → Int32))} {H : jm_H} {Q : Option Value → jm_H → Prop} {r0 o0 : Nat} {x1 x2 x3 x4 x5 x6 x7 x8 p1 : Int32} (h0 : jm_tg H o0 = 13) (h1 : jm_tg H r0 = 13) : jm_w S 2 193 156 [.ref r0, .int x1, .int x2, .int x3, .int x4, .int x5, .int x6, .int x7, .int x8] [.int p1, .ref o0] H Q = Q none (jm_pI (jm_pI (jm_pI (jm_pI H o0 45 p1) r0 47 (x8 &&& (((1 : Int32) <<< ((jm_I (jm_pI H o0 45 p1) r0 46) &&& 31)) - (1 : Int32)))) r0 48 (((1 : Int32) <<< ((jm_I (jm_pI (jm_pI H o0 45 p1) r0 47 (x8 &&& (((1 : Int32) <<< ((jm_I (jm_pI H o0 45 p1) r0 46) &&& 31)) - (1 : Int32)))) r0 46) &&& 31)) + (jm_I (jm_pI (jm_pI H o0 45 p1) r0 47 (x8 &&& (((1 : Int32) <<< ((jm_I (jm_pI H o0 45 p1) r0 46) &&& 31)) - (1 : Int32)))) r0 47))) r0 49 ((((jm_I (jm_pI (jm_pI (jm_pI H o0 45 p1) r0 47 (x8 &&& (((1 : Int32) <<< ((jm_I (jm_pI H o0 45 p1) r0 46) &&& 31)) - (1 : Int32)))) r0 48 (((1 : Int32) <<< ((jm_I (jm_pI (jm_pI H o0 45 p1) r0 47 (x8 &&& (((1 : Int32) <<< ((jm_I (jm_pI H o0 45 p1) r0 46) &&& 31)) - (1 : Int32)))) r0 46) &&& 31)) + (jm_I (jm_pI (jm_pI H o0 45 p1) r0 47 (x8 &&& (((1 : Int32) <<< ((jm_I (jm_pI H o0 45 p1) r0 46) &&& 31)) - (1 : Int32)))) r0 47))) r0 44) * ((1 : Int32) <<< (x2 &&& 31))) + (jm_I (jm_pI (jm_pI (jm_pI H o0 45 p1) r0 47 (x8 &&& (((1 : Int32) <<< ((jm_I (jm_pI H o0 45 p1) r0 46) &&& 31)) - (1 : Int32)))) r0 48 (((1 : Int32) <<< ((jm_I (jm_pI (jm_pI H o0 45 p1) r0 47 (x8 &&& (((1 : Int32) <<< ((jm_I (jm_pI H o0 45 p1) r0 46) &&& 31)) - (1 : Int32)))) r0 46) &&& 31)) + (jm_I (jm_pI (jm_pI H o0 45 p1) r0 47 (x8 &&& (((1 : Int32) <<< ((jm_I (jm_pI H o0 45 p1) r0 46) &&& 31)) - (1 : Int32)))) r0 47))) r0 45)) - (jm_I (jm_pI (jm_pI (jm_pI H o0 45 p1) r0 47 (x8 &&& (((1 : Int32) <<< ((jm_I (jm_pI H o0 45 p1) r0 46) &&& 31)) - (1 : Int32)))) r0 48 (((1 : Int32) <<< ((jm_I (jm_pI (jm_pI H o0 45 p1) r0 47 (x8 &&& (((1 : Int32) <<< ((jm_I (jm_pI H o0 45 p1) r0 46) &&& 31)) - (1 : Int32)))) r0 46) &&& 31)) + (jm_I (jm_pI (jm_pI H o0 45 p1) r0 47 (x8 &&& (((1 : Int32) <<< ((jm_I (jm_pI H o0 45 p1) r0 46) &&& 31)) - (1 : Int32)))) r0 47))) r0 46))) := (jspI (H := H) at193_156 rv193p_322 rfl h0 rfl).trans ((js1 at193_159 rfl rfl rfl).trans ((js1 at193_160 rfl rfl rfl).trans ((jsci at193_162 rfl rfl).trans ((js1 at193_163 rfl rfl rfl).trans ((jsgI (H := (jm_pI H o0 45 p1)) at193_164 rv193g_319 (Or.inl rfl) h1 rfl).trans ((js0 at193_167 rfl rfl rfl).trans ((jsci at193_168 rfl rfl).trans ((js0 at193_169 rfl rfl rfl).trans ((js0 at193_170 rfl rfl rfl).trans ((jspI (H := (jm_pI H o0 45 p1)) at193_171 rv193p_325 rfl h1 rfl).trans ((js1 at193_174 rfl rfl rfl).trans ((jsci at193_175 rfl rfl).trans ((js1 at193_176 rfl rfl rfl).trans ((jsgI (H := (jm_pI (jm_pI H o0 45 p1) r0 47 (x8 &&& (((1 : Int32) <<< ((jm_I (jm_pI H o0 45 p1) r0 46) &&& 31)) - (1 : Int32))))) at193_177 rv193g_319 (Or.inl rfl) h1 rfl).trans ((js0 at193_180 rfl rfl rfl).trans ((js1 at193_181 rfl rfl rfl).trans ((jsgI (H := (jm_pI (jm_pI H o0 45 p1) r0 47 (x8 &&& (((1 : Int32) <<< ((jm_I (jm_pI H o0 45 p1) r0 46) &&& 31)) - (1 : Int32))))) at193_182 rv193g_325 (Or.inl rfl) h1 rfl).trans ((js0 at193_185 rfl rfl rfl).trans ((jspI (H := (jm_pI (jm_pI H o0 45 p1) r0 47 (x8 &&& (((1 : Int32) <<< ((jm_I (jm_pI H o0 45 p1) r0 46) &&& 31)) - (1 : Int32))))) at193_186 rv193p_328 rfl h1 rfl).trans ((js1 at193_189 rfl rfl rfl).trans ((js1 at193_190 rfl rfl rfl).trans ((jsgI (H := (jm_pI (jm_pI (jm_pI H o0 45 p1) r0 47 (x8 &&& (((1 : Int32) <<< ((jm_I (jm_pI H o0 45 p1) r0 46) &&& 31)) - (1 : Int32)))) r0 48 (((1 : Int32) <<< ((jm_I (jm_pI (jm_pI H o0 45 p1) r0 47 (x8 &&& (((1 : Int32) <<< ((jm_I (jm_pI H o0 45 p1) r0 46) &&& 31)) - (1 : Int32)))) r0 46) &&& 31)) + (jm_I (jm_pI (jm_pI H o0 45 p1) r0 47 (x8 &&& (((1 : Int32) <<< ((jm_I (jm_pI H o0 45 p1) r0 46) &&& 31)) - (1 : Int32)))) r0 47)))) at193_191 rv193g_316 (Or.inl rfl) h1 rfl).trans ((jsci at193_194 rfl rfl).trans ((js1 at193_195 rfl rfl rfl).trans ((js0 at193_196 rfl rfl rfl).trans ((js0 at193_197 rfl rfl rfl).trans ((js1 at193_198 rfl rfl rfl).trans ((jsgI (H := (jm_pI (jm_pI (jm_pI H o0 45 p1) r0 47 (x8 &&& (((1 : Int32) <<< ((jm_I (jm_pI H o0 45 p1) r0 46) &&& 31)) - (1 : Int32)))) r0 48 (((1 : Int32) <<< ((jm_I (jm_pI (jm_pI H o0 45 p1) r0 47 (x8 &&& (((1 : Int32) <<< ((jm_I (jm_pI H o0 45 p1) r0 46) &&& 31)) - (1 : Int32)))) r0 46) &&& 31)) + (jm_I (jm_pI (jm_pI H o0 45 p1) r0 47 (x8 &&& (((1 : Int32) <<< ((jm_I (jm_pI H o0 45 p1) r0 46) &&& 31)) - (1 : Int32)))) r0 47)))) at193_199 rv193g_322 (Or.inl rfl) h1 rfl).trans ((js0 at193_202 rfl rfl rfl).trans ((js1 at193_203 rfl rfl rfl).trans ((jsgI (H := (jm_pI (jm_pI (jm_pI H o0 45 p1) r0 47 (x8 &&& (((1 : Int32) <<< ((jm_I (jm_pI H o0 45 p1) r0 46) &&& 31)) - (1 : Int32)))) r0 48 (((1 : Int32) <<< ((jm_I (jm_pI (jm_pI H o0 45 p1) r0 47 (x8 &&& (((1 : Int32) <<< ((jm_I (jm_pI H o0 45 p1) r0 46) &&& 31)) - (1 : Int32)))) r0 46) &&& 31)) + (jm_I (jm_pI (jm_pI H o0 45 p1) r0 47 (x8 &&& (((1 : Int32) <<< ((jm_I (jm_pI H o0 45 p1) r0 46) &&& 31)) - (1 : Int32)))) r0 47)))) at193_204 rv193g_319 (Or.inl rfl) h1 rfl).trans ((js0 at193_207 rfl rfl rfl).trans ((jspI (H := (jm_pI (jm_pI (jm_pI H o0 45 p1) r0 47 (x8 &&& (((1 : Int32) <<< ((jm_I (jm_pI H o0 45 p1) r0 46) &&& 31)) - (1 : Int32)))) r0 48 (((1 : Int32) <<< ((jm_I (jm_pI (jm_pI H o0 45 p1) r0 47 (x8 &&& (((1 : Int32) <<< ((jm_I (jm_pI H o0 45 p1) r0 46) &&& 31)) - (1 : Int32)))) r0 46) &&& 31)) + (jm_I (jm_pI (jm_pI H o0 45 p1) r0 47 (x8 &&& (((1 : Int32) <<< ((jm_I (jm_pI H o0 45 p1) r0 46) &&& 31)) - (1 : Int32)))) r0 47)))) at193_208 rv193p_331 rfl h1 rfl).trans (jsret_v at193_211 rfl))))))))))))))))))))))))))))))))))
theorem en193 {S : Option (Nat × (Nat → Int32))} {H : jm_H} {Q : Option Value → jm_H → Prop} {r0 : Nat} {x1 x2 x3 : Int32} : jm_c S 193 [.ref r0, .int x1, .int x2, .int x3] H Q = jm_w S 2 193 0 [.ref r0, .int x1, .int x2, .int x3, .null, .null, .null, .null, .null] [] H Q := rfl
theorem at194_0 : jm_at 194 0 = some (.iconst 1) := rfl
theorem at194_1 : jm_at 194 1 = some (.iload_n 0) := rfl
theorem at194_2 : jm_at 194 2 = some (.ishl) := rfl
theorem at194_3 : jm_at 194 3 = some (.iload_n 1) := rfl
theorem at194_4 : jm_at 194 4 = some (.isub) := rfl
theorem at194_5 : jm_at 194 5 = some (.iconst 1) := rfl
theorem at194_6 : jm_at 194 6 = some (.iload_n 0) := rfl
theorem at194_7 : jm_at 194 7 = some (.ishl) := rfl
theorem at194_8 : jm_at 194 8 = some (.iconst 1) := rfl
theorem at194_9 : jm_at 194 9 = some (.isub) := rfl
theorem at194_10 : jm_at 194 10 = some (.iand) := rfl
theorem at194_11 : jm_at 194 11 = some (.ireturn) := rfl
theorem u194_0 {S : Option (Nat × (Nat → Int32))} {H : jm_H} {Q : Option Value → jm_H → Prop} {x0 x1 : Int32} : jm_w S 1 194 0 [.int x0, .int x1] [] H Q = Q (some (.int ((((1 : Int32) <<< (x0 &&& 31)) - x1) &&& (((1 : Int32) <<< (x0 &&& 31)) - (1 : Int32))))) H := (jsci at194_0 rfl rfl).trans ((js1 at194_1 rfl rfl rfl).trans ((js0 at194_2 rfl rfl rfl).trans ((js1 at194_3 rfl rfl rfl).trans ((js0 at194_4 rfl rfl rfl).trans ((jsci at194_5 rfl rfl).trans ((js1 at194_6 rfl rfl rfl).trans ((js0 at194_7 rfl rfl rfl).trans ((jsci at194_8 rfl rfl).trans ((js0 at194_9 rfl rfl rfl).trans ((js0 at194_10 rfl rfl rfl).trans (jsret_i at194_11 rfl)))))))))))
theorem en194 {S : Option (Nat × (Nat → Int32))} {H : jm_H} {Q : Option Value → jm_H → Prop} {x0 x1 : Int32} : jm_c S 194 [.int x0, .int x1] H Q = jm_w S 1 194 0 [.int x0, .int x1] [] H Q := rfl
theorem at195_0 : jm_at 195 0 = some (.iload_n 0) := rfl
theorem at195_1 : jm_at 195 1 = some (.iload_n 1) := rfl
theorem at195_2 : jm_at 195 2 = some (.ishr) := rfl
theorem at195_3 : jm_at 195 3 = some (.iconst 1) := rfl
theorem at195_4 : jm_at 195 4 = some (.iand) := rfl
theorem at195_5 : jm_at 195 5 = some (.iconst 1) := rfl
theorem at195_6 : jm_at 195 6 = some (.if_icmp .ne 7) := rfl
theorem u195_0 {S : Option (Nat × (Nat → Int32))} {H : jm_H} {Q : Option Value → jm_H → Prop} {x0 x1 : Int32} : jm_w S 1 195 0 [.int x0, .int x1] [] H Q = if ¬ ((x0 >>> (x1 &&& 31)) &&& (1 : Int32)) = (1 : Int32) then jm_w S 1 195 13 [.int x0, .int x1] [] H Q else jm_w S 1 195 9 [.int x0, .int x1] [] H Q := (js1 at195_0 rfl rfl rfl).trans ((js1 at195_1 rfl rfl rfl).trans ((js0 at195_2 rfl rfl rfl).trans ((jsci at195_3 rfl rfl).trans ((js0 at195_4 rfl rfl rfl).trans ((jsci at195_5 rfl rfl).trans (jsif (P := ¬ ((x0 >>> (x1 &&& 31)) &&& (1 : Int32)) = (1 : Int32)) at195_6 rfl rfl))))))
theorem at195_9 : jm_at 195 9 = some (.iconst 1) := rfl
theorem at195_10 : jm_at 195 10 = some (.goto 4) := rfl
theorem u195_9 {S : Option (Nat × (Nat → Int32))} {H : jm_H} {Q : Option Value → jm_H → Prop} {x0 x1 : Int32} : jm_w S 1 195 9 [.int x0, .int x1] [] H Q = jm_w S 1 195 14 [.int x0, .int x1] [.int (1 : Int32)] H Q := (jsci at195_9 rfl rfl).trans (js2 at195_10 rfl rfl)
theorem at195_13 : jm_at 195 13 = some (.iconst 0) := rfl
theorem u195_13 {S : Option (Nat × (Nat → Int32))} {H : jm_H} {Q : Option Value → jm_H → Prop} {x0 x1 : Int32} : jm_w S 1 195 13 [.int x0, .int x1] [] H Q = jm_w S 1 195 14 [.int x0, .int x1] [.int (0 : Int32)] H Q := jsci at195_13 rfl rfl
theorem at195_14 : jm_at 195 14 = some (.ireturn) := rfl
theorem u195_14 {S : Option (Nat × (Nat → Int32))} {H : jm_H} {Q : Option Value → jm_H → Prop} {x0 x1 p0 : Int32} (h0 : p0 = 0 ∨ p0 = 1) : jm_w S 1 195 14 [.int x0, .int x1] [.int p0] H Q = Q (some (.int p0)) H := jsret_z at195_14 rfl h0
theorem en195 {S : Option (Nat × (Nat → Int32))} {H : jm_H} {Q : Option Value → jm_H → Prop} {x0 x1 : Int32} : jm_c S 195 [.int x0, .int x1] H Q = jm_w S 1 195 0 [.int x0, .int x1] [] H Q := rfl
theorem at196_0 : jm_at 196 0 = some (.lload_n 0) := rfl
theorem at196_1 : jm_at 196 1 = some (.invokestatic 355) := rfl
theorem rv196i_355 : jm_rv 196 (.invokestatic 355) = (1, 197, 0, 0) := rfl
theorem u196_0 {S : Option (Nat × (Nat → Int32))} {H : jm_H} {Q : Option Value → jm_H → Prop} {y0 y3 : Int64} {x2 x5 : Int32} : jm_w S 2 196 0 [.long y0, .null, .int x2, .long y3, .null, .int x5, .null, .null, .null, .null, .null, .null] [] H Q = jm_c S 197 [.long y0] H (fun v G => jm_w S 2 196 4 [.long y0, .null, .int x2, .long y3, .null, .int x5, .null, .null, .null, .null, .null, .null] (v.toList ++ []) G Q) := (js1 at196_0 rfl rfl rfl).trans (jscall (H := H) (as := [.long y0]) (q := []) at196_1 rfl rv196i_355 (jscut rfl rfl rfl (Nat.le_of_ble_eq_true rfl)) rfl (Nat.le_of_ble_eq_true rfl) rfl rfl)
theorem at196_4 : jm_at 196 4 = some (.iload_n 2) := rfl
theorem at196_5 : jm_at 196 5 = some (.iadd) := rfl
theorem at196_6 : jm_at 196 6 = some (.istore 6) := rfl
theorem at196_8 : jm_at 196 8 = some (.lload_n 3) := rfl
theorem at196_9 : jm_at 196 9 = some (.invokestatic 355) := rfl
theorem u196_4 {S : Option (Nat × (Nat → Int32))} {H : jm_H} {Q : Option Value → jm_H → Prop} {y0 y3 : Int64} {x2 x5 p0 : Int32} : jm_w S 2 196 4 [.long y0, .null, .int x2, .long y3, .null, .int x5, .null, .null, .null, .null, .null, .null] [.int p0] H Q = jm_c S 197 [.long y3] H (fun v G => jm_w S 2 196 12 [.long y0, .null, .int x2, .long y3, .null, .int x5, .int (p0 + x2), .null, .null, .null, .null, .null] (v.toList ++ []) G Q) := (js1 at196_4 rfl rfl rfl).trans ((js0 at196_5 rfl rfl rfl).trans ((js1 at196_6 rfl rfl rfl).trans ((js1 at196_8 rfl rfl rfl).trans (jscall (H := H) (as := [.long y3]) (q := []) at196_9 rfl rv196i_355 (jscut rfl rfl rfl (Nat.le_of_ble_eq_true rfl)) rfl (Nat.le_of_ble_eq_true rfl) rfl rfl))))
theorem at196_12 : jm_at 196 12 = some (.iload 5) := rfl
theorem at196_14 : jm_at 196 14 = some (.iadd) := rfl
theorem at196_15 : jm_at 196 15 = some (.istore 7) := rfl
theorem at196_17 : jm_at 196 17 = some (.iload 6) := rfl
theorem at196_19 : jm_at 196 19 = some (.iload 7) := rfl
theorem at196_21 : jm_at 196 21 = some (.if_icmp .eq 16) := rfl
theorem u196_12 {S : Option (Nat × (Nat → Int32))} {H : jm_H} {Q : Option Value → jm_H → Prop} {y0 y3 : Int64} {x2 x5 x6 p0 : Int32} : jm_w S 2 196 12 [.long y0, .null, .int x2, .long y3, .null, .int x5, .int x6, .null, .null, .null, .null, .null] [.int p0] H Q = if x6 = (p0 + x5) then jm_w S 2 196 37 [.long y0, .null, .int x2, .long y3, .null, .int x5, .int x6, .int (p0 + x5), .null, .null, .null, .null] [] H Q else jm_w S 2 196 24 [.long y0, .null, .int x2, .long y3, .null, .int x5, .int x6, .int (p0 + x5), .null, .null, .null, .null] [] H Q := (js1 at196_12 rfl rfl rfl).trans ((js0 at196_14 rfl rfl rfl).trans ((js1 at196_15 rfl rfl rfl).trans ((js1 at196_17 rfl rfl rfl).trans ((js1 at196_19 rfl rfl rfl).trans (jsif (P := x6 = (p0 + x5)) at196_21 rfl rfl)))))
theorem at196_24 : jm_at 196 24 = some (.iload 6) := rfl
theorem at196_26 : jm_at 196 26 = some (.iload 7) := rfl
theorem at196_28 : jm_at 196 28 = some (.if_icmp .ge 7) := rfl
theorem u196_24 {S : Option (Nat × (Nat → Int32))} {H : jm_H} {Q : Option Value → jm_H → Prop} {y0 y3 : Int64} {x2 x5 x6 x7 : Int32} : jm_w S 2 196 24 [.long y0, .null, .int x2, .long y3, .null, .int x5, .int x6, .int x7, .null, .null, .null, .null] [] H Q = if x7 ≤ x6 then jm_w S 2 196 35 [.long y0, .null, .int x2, .long y3, .null, .int x5, .int x6, .int x7, .null, .null, .null, .null] [] H Q else jm_w S 2 196 31 [.long y0, .null, .int x2, .long y3, .null, .int x5, .int x6, .int x7, .null, .null, .null, .null] [] H Q := (js1 at196_24 rfl rfl rfl).trans ((js1 at196_26 rfl rfl rfl).trans (jsif (P := x7 ≤ x6) at196_28 rfl rfl))
theorem at196_31 : jm_at 196 31 = some (.iconst (-1)) := rfl
theorem at196_32 : jm_at 196 32 = some (.goto 4) := rfl
theorem u196_31 {S : Option (Nat × (Nat → Int32))} {H : jm_H} {Q : Option Value → jm_H → Prop} {y0 y3 : Int64} {x2 x5 x6 x7 : Int32} : jm_w S 2 196 31 [.long y0, .null, .int x2, .long y3, .null, .int x5, .int x6, .int x7, .null, .null, .null, .null] [] H Q = jm_w S 2 196 36 [.long y0, .null, .int x2, .long y3, .null, .int x5, .int x6, .int x7, .null, .null, .null, .null] [.int (-1 : Int32)] H Q := (jsci at196_31 rfl rfl).trans (js2 at196_32 rfl rfl)
theorem at196_35 : jm_at 196 35 = some (.iconst 1) := rfl
theorem u196_35 {S : Option (Nat × (Nat → Int32))} {H : jm_H} {Q : Option Value → jm_H → Prop} {y0 y3 : Int64} {x2 x5 x6 x7 : Int32} : jm_w S 2 196 35 [.long y0, .null, .int x2, .long y3, .null, .int x5, .int x6, .int x7, .null, .null, .null, .null] [] H Q = jm_w S 2 196 36 [.long y0, .null, .int x2, .long y3, .null, .int x5, .int x6, .int x7, .null, .null, .null, .null] [.int (1 : Int32)] H Q := jsci at196_35 rfl rfl
theorem at196_36 : jm_at 196 36 = some (.ireturn) := rfl
theorem u196_36 {S : Option (Nat × (Nat → Int32))} {H : jm_H} {Q : Option Value → jm_H → Prop} {y0 y3 : Int64} {x2 x5 x6 x7 p0 : Int32} : jm_w S 2 196 36 [.long y0, .null, .int x2, .long y3, .null, .int x5, .int x6, .int x7, .null, .null, .null, .null] [.int p0] H Q = Q (some (.int p0)) H := jsret_i at196_36 rfl
theorem at196_37 : jm_at 196 37 = some (.iload_n 2) := rfl
theorem at196_38 : jm_at 196 38 = some (.iload 5) := rfl
theorem at196_40 : jm_at 196 40 = some (.if_icmp .le 12) := rfl
theorem u196_37 {S : Option (Nat × (Nat → Int32))} {H : jm_H} {Q : Option Value → jm_H → Prop} {y0 y3 : Int64} {x2 x5 x6 x7 : Int32} : jm_w S 2 196 37 [.long y0, .null, .int x2, .long y3, .null, .int x5, .int x6, .int x7, .null, .null, .null, .null] [] H Q = if x2 ≤ x5 then jm_w S 2 196 52 [.long y0, .null, .int x2, .long y3, .null, .int x5, .int x6, .int x7, .null, .null, .null, .null] [] H Q else jm_w S 2 196 43 [.long y0, .null, .int x2, .long y3, .null, .int x5, .int x6, .int x7, .null, .null, .null, .null] [] H Q := (js1 at196_37 rfl rfl rfl).trans ((js1 at196_38 rfl rfl rfl).trans (jsif (P := x2 ≤ x5) at196_40 rfl rfl))
theorem at196_43 : jm_at 196 43 = some (.lload_n 0) := rfl
theorem at196_44 : jm_at 196 44 = some (.iload_n 2) := rfl
theorem at196_45 : jm_at 196 45 = some (.iload 5) := rfl
theorem at196_47 : jm_at 196 47 = some (.isub) := rfl
theorem at196_48 : jm_at 196 48 = some (.lshl) := rfl
theorem at196_49 : jm_at 196 49 = some (.goto 4) := rfl
theorem u196_43 {S : Option (Nat × (Nat → Int32))} {H : jm_H} {Q : Option Value → jm_H → Prop} {y0 y3 : Int64} {x2 x5 x6 x7 : Int32} : jm_w S 2 196 43 [.long y0, .null, .int x2, .long y3, .null, .int x5, .int x6, .int x7, .null, .null, .null, .null] [] H Q = jm_w S 2 196 53 [.long y0, .null, .int x2, .long y3, .null, .int x5, .int x6, .int x7, .null, .null, .null, .null] [.long (y0 <<< (Int32.toInt64 (x2 - x5) &&& 63))] H Q := (js1 at196_43 rfl rfl rfl).trans ((js1 at196_44 rfl rfl rfl).trans ((js1 at196_45 rfl rfl rfl).trans ((js0 at196_47 rfl rfl rfl).trans ((js0 at196_48 rfl rfl rfl).trans (js2 at196_49 rfl rfl)))))
theorem at196_52 : jm_at 196 52 = some (.lload_n 0) := rfl
theorem u196_52 {S : Option (Nat × (Nat → Int32))} {H : jm_H} {Q : Option Value → jm_H → Prop} {y0 y3 : Int64} {x2 x5 x6 x7 : Int32} : jm_w S 2 196 52 [.long y0, .null, .int x2, .long y3, .null, .int x5, .int x6, .int x7, .null, .null, .null, .null] [] H Q = jm_w S 2 196 53 [.long y0, .null, .int x2, .long y3, .null, .int x5, .int x6, .int x7, .null, .null, .null, .null] [.long y0] H Q := js1 at196_52 rfl rfl rfl
theorem at196_53 : jm_at 196 53 = some (.lstore 8) := rfl
theorem at196_55 : jm_at 196 55 = some (.iload 5) := rfl
theorem at196_57 : jm_at 196 57 = some (.iload_n 2) := rfl
theorem at196_58 : jm_at 196 58 = some (.if_icmp .le 12) := rfl
theorem u196_53 {S : Option (Nat × (Nat → Int32))} {H : jm_H} {Q : Option Value → jm_H → Prop} {y0 y3 q0 : Int64} {x2 x5 x6 x7 : Int32} : jm_w S 2 196 53 [.long y0, .null, .int x2, .long y3, .null, .int x5, .int x6, .int x7, .null, .null, .null, .null] [.long q0] H Q = if x5 ≤ x2 then jm_w S 2 196 70 [.long y0, .null, .int x2, .long y3, .null, .int x5, .int x6, .int x7, .long q0, .null, .null, .null] [] H Q else jm_w S 2 196 61 [.long y0, .null, .int x2, .long y3, .null, .int x5, .int x6, .int x7, .long q0, .null, .null, .null] [] H Q := (js1 at196_53 rfl rfl rfl).trans ((js1 at196_55 rfl rfl rfl).trans ((js1 at196_57 rfl rfl rfl).trans (jsif (P := x5 ≤ x2) at196_58 rfl rfl)))
theorem at196_61 : jm_at 196 61 = some (.lload_n 3) := rfl
theorem at196_62 : jm_at 196 62 = some (.iload 5) := rfl
theorem at196_64 : jm_at 196 64 = some (.iload_n 2) := rfl
theorem at196_65 : jm_at 196 65 = some (.isub) := rfl
theorem at196_66 : jm_at 196 66 = some (.lshl) := rfl
theorem at196_67 : jm_at 196 67 = some (.goto 4) := rfl
theorem u196_61 {S : Option (Nat × (Nat → Int32))} {H : jm_H} {Q : Option Value → jm_H → Prop} {y0 y3 y8 : Int64} {x2 x5 x6 x7 : Int32} : jm_w S 2 196 61 [.long y0, .null, .int x2, .long y3, .null, .int x5, .int x6, .int x7, .long y8, .null, .null, .null] [] H Q = jm_w S 2 196 71 [.long y0, .null, .int x2, .long y3, .null, .int x5, .int x6, .int x7, .long y8, .null, .null, .null] [.long (y3 <<< (Int32.toInt64 (x5 - x2) &&& 63))] H Q := (js1 at196_61 rfl rfl rfl).trans ((js1 at196_62 rfl rfl rfl).trans ((js1 at196_64 rfl rfl rfl).trans ((js0 at196_65 rfl rfl rfl).trans ((js0 at196_66 rfl rfl rfl).trans (js2 at196_67 rfl rfl)))))
theorem at196_70 : jm_at 196 70 = some (.lload_n 3) := rfl
theorem u196_70 {S : Option (Nat × (Nat → Int32))} {H : jm_H} {Q : Option Value → jm_H → Prop} {y0 y3 y8 : Int64} {x2 x5 x6 x7 : Int32} : jm_w S 2 196 70 [.long y0, .null, .int x2, .long y3, .null, .int x5, .int x6, .int x7, .long y8, .null, .null, .null] [] H Q = jm_w S 2 196 71 [.long y0, .null, .int x2, .long y3, .null, .int x5, .int x6, .int x7, .long y8, .null, .null, .null] [.long y3] H Q := js1 at196_70 rfl rfl rfl
theorem at196_71 : jm_at 196 71 = some (.lstore 10) := rfl
theorem at196_73 : jm_at 196 73 = some (.lload 8) := rfl
theorem at196_75 : jm_at 196 75 = some (.lload 10) := rfl
theorem at196_77 : jm_at 196 77 = some (.lcmp) := rfl
theorem at196_78 : jm_at 196 78 = some (.ifCond .ge 7) := rfl
theorem u196_71 {S : Option (Nat × (Nat → Int32))} {H : jm_H} {Q : Option Value → jm_H → Prop} {y0 y3 y8 q0 : Int64} {x2 x5 x6 x7 : Int32} : jm_w S 2 196 71 [.long y0, .null, .int x2, .long y3, .null, .int x5, .int x6, .int x7, .long y8, .null, .null, .null] [.long q0] H Q = if 0 ≤ (lg_cmp y8 q0) then jm_w S 2 196 85 [.long y0, .null, .int x2, .long y3, .null, .int x5, .int x6, .int x7, .long y8, .null, .long q0, .null] [] H Q else jm_w S 2 196 81 [.long y0, .null, .int x2, .long y3, .null, .int x5, .int x6, .int x7, .long y8, .null, .long q0, .null] [] H Q := (js1 at196_71 rfl rfl rfl).trans ((js1 at196_73 rfl rfl rfl).trans ((js1 at196_75 rfl rfl rfl).trans ((js0 at196_77 rfl rfl rfl).trans (jsif (P := 0 ≤ (lg_cmp y8 q0)) at196_78 rfl rfl))))
theorem at196_81 : jm_at 196 81 = some (.iconst (-1)) := rfl
theorem at196_82 : jm_at 196 82 = some (.goto 16) := rfl
theorem u196_81 {S : Option (Nat × (Nat → Int32))} {H : jm_H} {Q : Option Value → jm_H → Prop} {y0 y3 y8 y10 : Int64} {x2 x5 x6 x7 : Int32} : jm_w S 2 196 81 [.long y0, .null, .int x2, .long y3, .null, .int x5, .int x6, .int x7, .long y8, .null, .long y10, .null] [] H Q = jm_w S 2 196 98 [.long y0, .null, .int x2, .long y3, .null, .int x5, .int x6, .int x7, .long y8, .null, .long y10, .null] [.int (-1 : Int32)] H Q := (jsci at196_81 rfl rfl).trans (js2 at196_82 rfl rfl)
theorem at196_85 : jm_at 196 85 = some (.lload 8) := rfl
theorem at196_87 : jm_at 196 87 = some (.lload 10) := rfl
theorem at196_89 : jm_at 196 89 = some (.lcmp) := rfl
theorem at196_90 : jm_at 196 90 = some (.ifCond .le 7) := rfl
theorem u196_85 {S : Option (Nat × (Nat → Int32))} {H : jm_H} {Q : Option Value → jm_H → Prop} {y0 y3 y8 y10 : Int64} {x2 x5 x6 x7 : Int32} : jm_w S 2 196 85 [.long y0, .null, .int x2, .long y3, .null, .int x5, .int x6, .int x7, .long y8, .null, .long y10, .null] [] H Q = if (lg_cmp y8 y10) ≤ 0 then jm_w S 2 196 97 [.long y0, .null, .int x2, .long y3, .null, .int x5, .int x6, .int x7, .long y8, .null, .long y10, .null] [] H Q else jm_w S 2 196 93 [.long y0, .null, .int x2, .long y3, .null, .int x5, .int x6, .int x7, .long y8, .null, .long y10, .null] [] H Q := (js1 at196_85 rfl rfl rfl).trans ((js1 at196_87 rfl rfl rfl).trans ((js0 at196_89 rfl rfl rfl).trans (jsif (P := (lg_cmp y8 y10) ≤ 0) at196_90 rfl rfl)))
theorem at196_93 : jm_at 196 93 = some (.iconst 1) := rfl
theorem at196_94 : jm_at 196 94 = some (.goto 4) := rfl
theorem u196_93 {S : Option (Nat × (Nat → Int32))} {H : jm_H} {Q : Option Value → jm_H → Prop} {y0 y3 y8 y10 : Int64} {x2 x5 x6 x7 : Int32} : jm_w S 2 196 93 [.long y0, .null, .int x2, .long y3, .null, .int x5, .int x6, .int x7, .long y8, .null, .long y10, .null] [] H Q = jm_w S 2 196 98 [.long y0, .null, .int x2, .long y3, .null, .int x5, .int x6, .int x7, .long y8, .null, .long y10, .null] [.int (1 : Int32)] H Q := (jsci at196_93 rfl rfl).trans (js2 at196_94 rfl rfl)
theorem at196_97 : jm_at 196 97 = some (.iconst 0) := rfl
theorem u196_97 {S : Option (Nat × (Nat → Int32))} {H : jm_H} {Q : Option Value → jm_H → Prop} {y0 y3 y8 y10 : Int64} {x2 x5 x6 x7 : Int32} : jm_w S 2 196 97 [.long y0, .null, .int x2, .long y3, .null, .int x5, .int x6, .int x7, .long y8, .null, .long y10, .null] [] H Q = jm_w S 2 196 98 [.long y0, .null, .int x2, .long y3, .null, .int x5, .int x6, .int x7, .long y8, .null, .long y10, .null] [.int (0 : Int32)] H Q := jsci at196_97 rfl rfl
theorem at196_98 : jm_at 196 98 = some (.ireturn) := rfl
theorem u196_98 {S : Option (Nat × (Nat → Int32))} {H : jm_H} {Q : Option Value → jm_H → Prop} {y0 y3 y8 y10 : Int64} {x2 x5 x6 x7 p0 : Int32} : jm_w S 2 196 98 [.long y0, .null, .int x2, .long y3, .null, .int x5, .int x6, .int x7, .long y8, .null, .long y10, .null] [.int p0] H Q = Q (some (.int p0)) H := jsret_i at196_98 rfl
theorem en196 {S : Option (Nat × (Nat → Int32))} {H : jm_H} {Q : Option Value → jm_H → Prop} {y0 y3 : Int64} {x2 x5 : Int32} : jm_c S 196 [.long y0, .int x2, .long y3, .int x5] H Q = jm_w S 2 196 0 [.long y0, .null, .int x2, .long y3, .null, .int x5, .null, .null, .null, .null, .null, .null] [] H Q := rfl
theorem at197_0 : jm_at 197 0 = some (.iconst 0) := rfl
theorem at197_1 : jm_at 197 1 = some (.istore_n 2) := rfl
theorem u197_0 {S : Option (Nat × (Nat → Int32))} {H : jm_H} {Q : Option Value → jm_H → Prop} {y0 : Int64} : jm_w S 1 197 0 [.long y0, .null, .null] [] H Q = jm_w S 1 197 2 [.long y0, .null, .int (0 : Int32)] [] H Q := (jsci at197_0 rfl rfl).trans (js1 at197_1 rfl rfl rfl)
theorem at197_2 : jm_at 197 2 = some (.lload_n 0) := rfl
theorem at197_3 : jm_at 197 3 = some (.iload_n 2) := rfl
theorem at197_4 : jm_at 197 4 = some (.lshr) := rfl
theorem at197_5 : jm_at 197 5 = some (.lconst 0) := rfl
theorem at197_6 : jm_at 197 6 = some (.lcmp) := rfl
theorem at197_7 : jm_at 197 7 = some (.ifCond .le 9) := rfl
theorem u197_2 {S : Option (Nat × (Nat → Int32))} {H : jm_H} {Q : Option Value → jm_H → Prop} {y0 : Int64} {x2 : Int32} : jm_w S 1 197 2 [.long y0, .null, .int x2] [] H Q = if (lg_cmp (y0 >>> (Int32.toInt64 x2 &&& 63)) (0 : Int64)) ≤ 0 then jm_w S 1 197 16 [.long y0, .null, .int x2] [] H Q else jm_w S 1 197 10 [.long y0, .null, .int x2] [] H Q := (js1 at197_2 rfl rfl rfl).trans ((js1 at197_3 rfl rfl rfl).trans ((js0 at197_4 rfl rfl rfl).trans ((jscl at197_5 rfl rfl).trans ((js0 at197_6 rfl rfl rfl).trans (jsif (P := (lg_cmp (y0 >>> (Int32.toInt64 x2 &&& 63)) (0 : Int64)) ≤ 0) at197_7 rfl rfl)))))
theorem at197_10 : jm_at 197 10 = some (.iinc 2 1) := rfl
theorem at197_13 : jm_at 197 13 = some (.goto (-11)) := rfl
theorem u197_10 {S : Option (Nat × (Nat → Int32))} {H : jm_H} {Q : Option Value → jm_H → Prop} {y0 : Int64} {x2 : Int32} : jm_w S 1 197 10 [.long y0, .null, .int x2] [] H Q = jm_w S 1 197 2 [.long y0, .null, .int (x2 + 1)] [] H Q := (jsinc at197_10 rfl rfl rfl).trans (js2 at197_13 rfl rfl)
theorem at197_16 : jm_at 197 16 = some (.iload_n 2) := rfl
theorem at197_17 : jm_at 197 17 = some (.ireturn) := rfl
theorem u197_16 {S : Option (Nat × (Nat → Int32))} {H : jm_H} {Q : Option Value → jm_H → Prop} {y0 : Int64} {x2 : Int32} : jm_w S 1 197 16 [.long y0, .null, .int x2] [] H Q = Q (some (.int x2)) H := (js1 at197_16 rfl rfl rfl).trans (jsret_i at197_17 rfl)
theorem en197 {S : Option (Nat × (Nat → Int32))} {H : jm_H} {Q : Option Value → jm_H → Prop} {y0 : Int64} : jm_c S 197 [.long y0] H Q = jm_w S 1 197 0 [.long y0, .null, .null] [] H Q := rfl
theorem at198_0 : jm_at 198 0 = some (.iconst 0) := rfl
theorem at198_1 : jm_at 198 1 = some (.istore 4) := rfl
theorem u198_0 {S : Option (Nat × (Nat → Int32))} {H : jm_H} {Q : Option Value → jm_H → Prop} {r0 : Nat} {y1 : Int64} {x3 : Int32} : jm_w S 1 198 0 [.ref r0, .long y1, .null, .int x3, .null, .null, .null] [] H Q = jm_w S 1 198 3 [.ref r0, .long y1, .null, .int x3, .int (0 : Int32), .null, .null] [] H Q := (jsci at198_0 rfl rfl).trans (js1 at198_1 rfl rfl rfl)
theorem at198_3 : jm_at 198 3 = some (.iload 4) := rfl
theorem at198_5 : jm_at 198 5 = some (.bipush 16) := rfl
theorem at198_7 : jm_at 198 7 = some (.if_icmp .ge 14) := rfl
theorem u198_3 {S : Option (Nat × (Nat → Int32))} {H : jm_H} {Q : Option Value → jm_H → Prop} {r0 : Nat} {y1 : Int64} {x3 x4 : Int32} : jm_w S 1 198 3 [.ref r0, .long y1, .null, .int x3, .int x4, .null, .null] [] H Q = if (16 : Int32) ≤ x4 then jm_w S 1 198 21 [.ref r0, .long y1, .null, .int x3, .int x4, .null, .null] [] H Q else jm_w S 1 198 10 [.ref r0, .long y1, .null, .int x3, .int x4, .null, .null] [] H Q := (js1 at198_3 rfl rfl rfl).trans ((jscb at198_5 rfl rfl).trans (jsif (P := (16 : Int32) ≤ x4) at198_7 rfl rfl))
theorem at198_10 : jm_at 198 10 = some (.aload_n 0) := rfl
theorem at198_11 : jm_at 198 11 = some (.iload 4) := rfl
theorem at198_13 : jm_at 198 13 = some (.iconst 0) := rfl
theorem at198_14 : jm_at 198 14 = some (.iastore) := rfl
theorem at198_15 : jm_at 198 15 = some (.iinc 4 1) := rfl
theorem at198_18 : jm_at 198 18 = some (.goto (-15)) := rfl
theorem u198_10 {S : Option (Nat × (Nat → Int32))} {H : jm_H} {Q : Option Value → jm_H → Prop} {r0 : Nat} {y1 : Int64} {x3 x4 : Int32} (h0 : ¬ (x4 < 0 ∨ jm_ln H r0 ≤ Int32.toNatClampNeg x4)) (h1 : jm_tg H r0 = 100) : jm_w S 1 198 10 [.ref r0, .long y1, .null, .int x3, .int x4, .null, .null] [] H Q = jm_w S 1 198 3 [.ref r0, .long y1, .null, .int x3, .int (x4 + 1), .null, .null] [] (jm_pI H r0 (Int32.toNatClampNeg x4) (0 : Int32)) Q := (js1 at198_10 rfl rfl rfl).trans ((js1 at198_11 rfl rfl rfl).trans ((jsci at198_13 rfl rfl).trans ((jsias (H := H) at198_14 h1 h0 rfl).trans ((jsinc at198_15 rfl rfl rfl).trans (js2 at198_18 rfl rfl)))))
theorem at198_21 : jm_at 198 21 = some (.iload_n 3) := rfl
theorem at198_22 : jm_at 198 22 = some (.bipush 112) := rfl
theorem at198_24 : jm_at 198 24 = some (.iadd) := rfl
theorem at198_25 : jm_at 198 25 = some (.bipush 16) := rfl
theorem at198_27 : jm_at 198 27 = some (.idiv) := rfl
theorem at198_28 : jm_at 198 28 = some (.istore 4) := rfl
theorem at198_30 : jm_at 198 30 = some (.lload_n 1) := rfl
theorem at198_31 : jm_at 198 31 = some (.iload_n 3) := rfl
theorem at198_32 : jm_at 198 32 = some (.bipush 112) := rfl
theorem at198_34 : jm_at 198 34 = some (.iadd) := rfl
theorem at198_35 : jm_at 198 35 = some (.bipush 16) := rfl
theorem at198_37 : jm_at 198 37 = some (.irem) := rfl
theorem at198_38 : jm_at 198 38 = some (.lshl) := rfl
theorem at198_39 : jm_at 198 39 = some (.lstore 5) := rfl
theorem u198_21 {S : Option (Nat × (Nat → Int32))} {H : jm_H} {Q : Option Value → jm_H → Prop} {r0 : Nat} {y1 : Int64} {x3 x4 : Int32} : jm_w S 1 198 21 [.ref r0, .long y1, .null, .int x3, .int x4, .null, .null] [] H Q = jm_w S 1 198 41 [.ref r0, .long y1, .null, .int x3, .int ((x3 + (112 : Int32)) / (16 : Int32)), .long (y1 <<< (Int32.toInt64 ((x3 + (112 : Int32)) - (x3 + (112 : Int32)) / (16 : Int32) * (16 : Int32)) &&& 63)), .null] [] H Q := (js1 at198_21 rfl rfl rfl).trans ((jscb at198_22 rfl rfl).trans ((js0 at198_24 rfl rfl rfl).trans ((jscb at198_25 rfl rfl).trans ((jsidiv at198_27 (by decide) rfl).trans ((js1 at198_28 rfl rfl rfl).trans ((js1 at198_30 rfl rfl rfl).trans ((js1 at198_31 rfl rfl rfl).trans ((jscb at198_32 rfl rfl).trans ((js0 at198_34 rfl rfl rfl).trans ((jscb at198_35 rfl rfl).trans ((jsirem at198_37 (by decide) rfl).trans ((js0 at198_38 rfl rfl rfl).trans (js1 at198_39 rfl rfl rfl)))))))))))))
theorem at198_41 : jm_at 198 41 = some (.lload 5) := rfl
theorem at198_43 : jm_at 198 43 = some (.lconst 0) := rfl
theorem at198_44 : jm_at 198 44 = some (.lcmp) := rfl
theorem at198_45 : jm_at 198 45 = some (.ifCond .le 27) := rfl
theorem u198_41 {S : Option (Nat × (Nat → Int32))} {H : jm_H} {Q : Option Value → jm_H → Prop} {r0 : Nat} {y1 y5 : Int64} {x3 x4 : Int32} : jm_w S 1 198 41 [.ref r0, .long y1, .null, .int x3, .int x4, .long y5, .null] [] H Q = if (lg_cmp y5 (0 : Int64)) ≤ 0 then jm_w S 1 198 72 [.ref r0, .long y1, .null, .int x3, .int x4, .long y5, .null] [] H Q else jm_w S 1 198 48 [.ref r0, .long y1, .null, .int x3, .int x4, .long y5, .null] [] H Q := (js1 at198_41 rfl rfl rfl).trans ((jscl at198_43 rfl rfl).trans ((js0 at198_44 rfl rfl rfl).trans (jsif (P := (lg_cmp y5 (0 : Int64)) ≤ 0) at198_45 rfl rfl)))
theorem at198_48 : jm_at 198 48 = some (.aload_n 0) := rfl
theorem at198_49 : jm_at 198 49 = some (.iload 4) := rfl
theorem at198_51 : jm_at 198 51 = some (.lload 5) := rfl
theorem at198_53 : jm_at 198 53 = some (.ldc2_w 334) := rfl
theorem rv198l_334 : jm_rv 198 (.ldc2_w 334) = (9, 0, 0, 65535) := rfl
theorem at198_56 : jm_at 198 56 = some (.land) := rfl
theorem at198_57 : jm_at 198 57 = some (.l2i) := rfl
theorem at198_58 : jm_at 198 58 = some (.iastore) := rfl
theorem at198_59 : jm_at 198 59 = some (.iinc 4 1) := rfl
theorem at198_62 : jm_at 198 62 = some (.lload 5) := rfl
theorem at198_64 : jm_at 198 64 = some (.bipush 16) := rfl
theorem at198_66 : jm_at 198 66 = some (.lshr) := rfl
theorem at198_67 : jm_at 198 67 = some (.lstore 5) := rfl
theorem at198_69 : jm_at 198 69 = some (.goto (-28)) := rfl
theorem u198_48 {S : Option (Nat × (Nat → Int32))} {H : jm_H} {Q : Option Value → jm_H → Prop} {r0 : Nat} {y1 y5 : Int64} {x3 x4 : Int32} (h0 : ¬ (x4 < 0 ∨ jm_ln H r0 ≤ Int32.toNatClampNeg x4)) (h1 : jm_tg H r0 = 100) : jm_w S 1 198 48 [.ref r0, .long y1, .null, .int x3, .int x4, .long y5, .null] [] H Q = jm_w S 1 198 41 [.ref r0, .long y1, .null, .int x3, .int (x4 + 1), .long (y5 >>> (Int32.toInt64 (16 : Int32) &&& 63)), .null] [] (jm_pI H r0 (Int32.toNatClampNeg x4) (Int64.toInt32 (y5 &&& (65535 : Int64)))) Q := (js1 at198_48 rfl rfl rfl).trans ((js1 at198_49 rfl rfl rfl).trans ((js1 at198_51 rfl rfl rfl).trans ((jsk2 at198_53 rv198l_334 rfl rfl).trans ((js0 at198_56 rfl rfl rfl).trans ((js0 at198_57 rfl rfl rfl).trans ((jsias (H := H) at198_58 h1 h0 rfl).trans ((jsinc at198_59 rfl rfl rfl).trans ((js1 at198_62 rfl rfl rfl).trans ((jscb at198_64 rfl rfl).trans ((js0 at198_66 rfl rfl rfl).trans ((js1 at198_67 rfl rfl rfl).trans (js2 at198_69 rfl rfl))))))))))))
theorem at198_72 : jm_at 198 72 = some (.return_) := rfl
theorem u198_72 {S : Option (Nat × (Nat → Int32))} {H : jm_H} {Q : Option Value → jm_H → Prop} {r0 : Nat} {y1 y5 : Int64} {x3 x4 : Int32} : jm_w S 1 198 72 [.ref r0, .long y1, .null, .int x3, .int x4, .long y5, .null] [] H Q = Q none H := jsret_v at198_72 rfl
theorem en198 {S : Option (Nat × (Nat → Int32))} {H : jm_H} {Q : Option Value → jm_H → Prop} {r0 : Nat} {y1 : Int64} {x3 : Int32} : jm_c S 198 [.ref r0, .long y1, .int x3] H Q = jm_w S 1 198 0 [.ref r0, .long y1, .null, .int x3, .null, .null, .null] [] H Q := rfl
theorem at199_0 : jm_at 199 0 = some (.bipush 15) := rfl
theorem at199_2 : jm_at 199 2 = some (.istore_n 2) := rfl
theorem u199_0 {S : Option (Nat × (Nat → Int32))} {H : jm_H} {Q : Option Value → jm_H → Prop} {r0 r1 : Nat} : jm_w S 1 199 0 [.ref r0, .ref r1, .null] [] H Q = jm_w S 1 199 3 [.ref r0, .ref r1, .int (15 : Int32)] [] H Q := (jscb at199_0 rfl rfl).trans (js1 at199_2 rfl rfl rfl)
theorem at199_3 : jm_at 199 3 = some (.iload_n 2) := rfl
theorem at199_4 : jm_at 199 4 = some (.ifCond .lt 18) := rfl
theorem u199_3 {S : Option (Nat × (Nat → Int32))} {H : jm_H} {Q : Option Value → jm_H → Prop} {r0 r1 : Nat} {x2 : Int32} : jm_w S 1 199 3 [.ref r0, .ref r1, .int x2] [] H Q = if x2 < 0 then jm_w S 1 199 22 [.ref r0, .ref r1, .int x2] [] H Q else jm_w S 1 199 7 [.ref r0, .ref r1, .int x2] [] H Q := (js1 at199_3 rfl rfl rfl).trans (jsif (P := x2 < 0) at199_4 rfl rfl)
theorem at199_7 : jm_at 199 7 = some (.aload_n 0) := rfl
theorem at199_8 : jm_at 199 8 = some (.iload_n 2) := rfl
theorem at199_9 : jm_at 199 9 = some (.iaload) := rfl
theorem at199_10 : jm_at 199 10 = some (.aload_n 1) := rfl
theorem at199_11 : jm_at 199 11 = some (.iload_n 2) := rfl
theorem at199_12 : jm_at 199 12 = some (.iaload) := rfl
theorem at199_13 : jm_at 199 13 = some (.if_icmp .ne 9) := rfl
theorem u199_7 {S : Option (Nat × (Nat → Int32))} {H : jm_H} {Q : Option Value → jm_H → Prop} {r0 r1 : Nat} {x2 : Int32} (h0 : ¬ (x2 < 0 ∨ jm_ln H r0 ≤ Int32.toNatClampNeg x2)) (h1 : ¬ r0 = 1) (h2 : jm_tg H r0 = 100) (h3 : ¬ (x2 < 0 ∨ jm_ln H r1 ≤ Int32.toNatClampNeg x2)) (h4 : ¬ r1 = 1) (h5 : jm_tg H r1 = 100) : jm_w S 1 199 7 [.ref r0, .ref r1, .int x2] [] H Q = if ¬ (jm_I H r0 (Int32.toNatClampNeg x2)) = (jm_I H r1 (Int32.toNatClampNeg x2)) then jm_w S 1 199 22 [.ref r0, .ref r1, .int x2] [] H Q else jm_w S 1 199 16 [.ref r0, .ref r1, .int x2] [] H Q := (js1 at199_7 rfl rfl rfl).trans ((js1 at199_8 rfl rfl rfl).trans ((jsial (H := H) at199_9 h1 h2 h0 rfl).trans ((js1 at199_10 rfl rfl rfl).trans ((js1 at199_11 rfl rfl rfl).trans ((jsial (H := H) at199_12 h4 h5 h3 rfl).trans (jsif (P := ¬ (jm_I H r0 (Int32.toNatClampNeg x2)) = (jm_I H r1 (Int32.toNatClampNeg x2))) at199_13 rfl rfl))))))
theorem at199_16 : jm_at 199 16 = some (.iinc 2 (-1)) := rfl
theorem at199_19 : jm_at 199 19 = some (.goto (-16)) := rfl
theorem u199_16 {S : Option (Nat × (Nat → Int32))} {H : jm_H} {Q : Option Value → jm_H → Prop} {r0 r1 : Nat} {x2 : Int32} : jm_w S 1 199 16 [.ref r0, .ref r1, .int x2] [] H Q = jm_w S 1 199 3 [.ref r0, .ref r1, .int (x2 + (-1))] [] H Q := (jsinc at199_16 rfl rfl rfl).trans (js2 at199_19 rfl rfl)
theorem at199_22 : jm_at 199 22 = some (.iload_n 2) := rfl
theorem at199_23 : jm_at 199 23 = some (.ifCond .ge 7) := rfl
theorem u199_22 {S : Option (Nat × (Nat → Int32))} {H : jm_H} {Q : Option Value → jm_H → Prop} {r0 r1 : Nat} {x2 : Int32} : jm_w S 1 199 22 [.ref r0, .ref r1, .int x2] [] H Q = if 0 ≤ x2 then jm_w S 1 199 30 [.ref r0, .ref r1, .int x2] [] H Q else jm_w S 1 199 26 [.ref r0, .ref r1, .int x2] [] H Q := (js1 at199_22 rfl rfl rfl).trans (jsif (P := 0 ≤ x2) at199_23 rfl rfl)
theorem at199_26 : jm_at 199 26 = some (.iconst 0) := rfl
theorem at199_27 : jm_at 199 27 = some (.goto 17) := rfl
theorem u199_26 {S : Option (Nat × (Nat → Int32))} {H : jm_H} {Q : Option Value → jm_H → Prop} {r0 r1 : Nat} {x2 : Int32} : jm_w S 1 199 26 [.ref r0, .ref r1, .int x2] [] H Q = jm_w S 1 199 44 [.ref r0, .ref r1, .int x2] [.int (0 : Int32)] H Q := (jsci at199_26 rfl rfl).trans (js2 at199_27 rfl rfl)
theorem at199_30 : jm_at 199 30 = some (.aload_n 0) := rfl
theorem at199_31 : jm_at 199 31 = some (.iload_n 2) := rfl
theorem at199_32 : jm_at 199 32 = some (.iaload) := rfl
theorem at199_33 : jm_at 199 33 = some (.aload_n 1) := rfl
theorem at199_34 : jm_at 199 34 = some (.iload_n 2) := rfl
theorem at199_35 : jm_at 199 35 = some (.iaload) := rfl
theorem at199_36 : jm_at 199 36 = some (.if_icmp .ge 7) := rfl
theorem u199_30 {S : Option (Nat × (Nat → Int32))} {H : jm_H} {Q : Option Value → jm_H → Prop} {r0 r1 : Nat} {x2 : Int32} (h0 : ¬ (x2 < 0 ∨ jm_ln H r0 ≤ Int32.toNatClampNeg x2)) (h1 : ¬ r0 = 1) (h2 : jm_tg H r0 = 100) (h3 : ¬ (x2 < 0 ∨ jm_ln H r1 ≤ Int32.toNatClampNeg x2)) (h4 : ¬ r1 = 1) (h5 : jm_tg H r1 = 100) : jm_w S 1 199 30 [.ref r0, .ref r1, .int x2] [] H Q = if (jm_I H r1 (Int32.toNatClampNeg x2)) ≤ (jm_I H r0 (Int32.toNatClampNeg x2)) then jm_w S 1 199 43 [.ref r0, .ref r1, .int x2] [] H Q else jm_w S 1 199 39 [.ref r0, .ref r1, .int x2] [] H Q := (js1 at199_30 rfl rfl rfl).trans ((js1 at199_31 rfl rfl rfl).trans ((jsial (H := H) at199_32 h1 h2 h0 rfl).trans ((js1 at199_33 rfl rfl rfl).trans ((js1 at199_34 rfl rfl rfl).trans ((jsial (H := H) at199_35 h4 h5 h3 rfl).trans (jsif (P := (jm_I H r1 (Int32.toNatClampNeg x2)) ≤ (jm_I H r0 (Int32.toNatClampNeg x2))) at199_36 rfl rfl))))))
theorem at199_39 : jm_at 199 39 = some (.iconst (-1)) := rfl
theorem at199_40 : jm_at 199 40 = some (.goto 4) := rfl
theorem u199_39 {S : Option (Nat × (Nat → Int32))} {H : jm_H} {Q : Option Value → jm_H → Prop} {r0 r1 : Nat} {x2 : Int32} : jm_w S 1 199 39 [.ref r0, .ref r1, .int x2] [] H Q = jm_w S 1 199 44 [.ref r0, .ref r1, .int x2] [.int (-1 : Int32)] H Q := (jsci at199_39 rfl rfl).trans (js2 at199_40 rfl rfl)
theorem at199_43 : jm_at 199 43 = some (.iconst 1) := rfl
theorem u199_43 {S : Option (Nat × (Nat → Int32))} {H : jm_H} {Q : Option Value → jm_H → Prop} {r0 r1 : Nat} {x2 : Int32} : jm_w S 1 199 43 [.ref r0, .ref r1, .int x2] [] H Q = jm_w S 1 199 44 [.ref r0, .ref r1, .int x2] [.int (1 : Int32)] H Q := jsci at199_43 rfl rfl
theorem at199_44 : jm_at 199 44 = some (.ireturn) := rfl
theorem u199_44 {S : Option (Nat × (Nat → Int32))} {H : jm_H} {Q : Option Value → jm_H → Prop} {r0 r1 : Nat} {x2 p0 : Int32} : jm_w S 1 199 44 [.ref r0, .ref r1, .int x2] [.int p0] H Q = Q (some (.int p0)) H := jsret_i at199_44 rfl
theorem en199 {S : Option (Nat × (Nat → Int32))} {H : jm_H} {Q : Option Value → jm_H → Prop} {r0 r1 : Nat} : jm_c S 199 [.ref r0, .ref r1] H Q = jm_w S 1 199 0 [.ref r0, .ref r1, .null] [] H Q := rfl
theorem at200_0 : jm_at 200 0 = some (.aload_n 0) := rfl
theorem at200_1 : jm_at 200 1 = some (.dup) := rfl
theorem at200_2 : jm_at 200 2 = some (.getfield 380) := rfl
theorem rv200g_380 : jm_rv 200 (.getfield 380) = (0, 12, 58, 0) := rfl
theorem at200_5 : jm_at 200 5 = some (.iload_n 3) := rfl
theorem at200_6 : jm_at 200 6 = some (.imul) := rfl
theorem at200_7 : jm_at 200 7 = some (.putfield 380) := rfl
theorem rv200p_380 : jm_rv 200 (.putfield 380) = (0, 12, 58, 0) := rfl
theorem at200_10 : jm_at 200 10 = some (.iload_n 3) := rfl
theorem at200_11 : jm_at 200 11 = some (.ifCond .ge 11) := rfl
theorem u200_0 {S : Option (Nat × (Nat → Int32))} {H : jm_H} {Q : Option Value → jm_H → Prop} {r0 : Nat} {x1 x2 x3 : Int32} (h0 : jm_tg H r0 = 13) : jm_w S 2 200 0 [.ref r0, .int x1, .int x2, .int x3] [] H Q = if 0 ≤ x3 then jm_w S 2 200 22 [.ref r0, .int x1, .int x2, .int x3] [] (jm_pI H r0 58 ((jm_I H r0 58) * x3)) Q else jm_w S 2 200 14 [.ref r0, .int x1, .int x2, .int x3] [] (jm_pI H r0 58 ((jm_I H r0 58) * x3)) Q := (js1 at200_0 rfl rfl rfl).trans ((js0 at200_1 rfl rfl rfl).trans ((jsgI (H := H) at200_2 rv200g_380 (Or.inl rfl) h0 rfl).trans ((js1 at200_5 rfl rfl rfl).trans ((js0 at200_6 rfl rfl rfl).trans ((jspI (H := H) at200_7 rv200p_380 rfl h0 rfl).trans ((js1 at200_10 rfl rfl rfl).trans (jsif (P := 0 ≤ x3) at200_11 rfl rfl)))))))
theorem at200_14 : jm_at 200 14 = some (.iload_n 1) := rfl
theorem at200_15 : jm_at 200 15 = some (.iload_n 2) := rfl
theorem at200_16 : jm_at 200 16 = some (.invokestatic 259) := rfl
theorem rv200i_259 : jm_rv 200 (.invokestatic 259) = (1, 194, 0, 0) := rfl
theorem u200_14 {S : Option (Nat × (Nat → Int32))} {H : jm_H} {Q : Option Value → jm_H → Prop} {r0 : Nat} {x1 x2 x3 : Int32} : jm_w S 2 200 14 [.ref r0, .int x1, .int x2, .int x3] [] H Q = jm_c S 194 [.int x1, .int x2] H (fun v G => jm_w S 2 200 19 [.ref r0, .int x1, .int x2, .int x3] (v.toList ++ []) G Q) := (js1 at200_14 rfl rfl rfl).trans ((js1 at200_15 rfl rfl rfl).trans (jscall (H := H) (as := [.int x1, .int x2]) (q := []) at200_16 rfl rv200i_259 (jscut rfl rfl rfl (Nat.le_of_ble_eq_true rfl)) rfl (Nat.le_of_ble_eq_true rfl) rfl rfl))
theorem at200_19 : jm_at 200 19 = some (.goto 4) := rfl
theorem u200_19 {S : Option (Nat × (Nat → Int32))} {H : jm_H} {Q : Option Value → jm_H → Prop} {r0 : Nat} {x1 x2 x3 p0 : Int32} : jm_w S 2 200 19 [.ref r0, .int x1, .int x2, .int x3] [.int p0] H Q = jm_w S 2 200 23 [.ref r0, .int x1, .int x2, .int x3] [.int p0] H Q := js2 at200_19 rfl rfl
theorem at200_22 : jm_at 200 22 = some (.iload_n 2) := rfl
theorem u200_22 {S : Option (Nat × (Nat → Int32))} {H : jm_H} {Q : Option Value → jm_H → Prop} {r0 : Nat} {x1 x2 x3 : Int32} : jm_w S 2 200 22 [.ref r0, .int x1, .int x2, .int x3] [] H Q = jm_w S 2 200 23 [.ref r0, .int x1, .int x2, .int x3] [.int x2] H Q := js1 at200_22 rfl rfl rfl
theorem at200_23 : jm_at 200 23 = some (.ireturn) := rfl
theorem u200_23 {S : Option (Nat × (Nat → Int32))} {H : jm_H} {Q : Option Value → jm_H → Prop} {r0 : Nat} {x1 x2 x3 p0 : Int32} : jm_w S 2 200 23 [.ref r0, .int x1, .int x2, .int x3] [.int p0] H Q = Q (some (.int p0)) H := jsret_i at200_23 rfl
theorem en200 {S : Option (Nat × (Nat → Int32))} {H : jm_H} {Q : Option Value → jm_H → Prop} {r0 : Nat} {x1 x2 x3 : Int32} : jm_c S 200 [.ref r0, .int x1, .int x2, .int x3] H Q = jm_w S 2 200 0 [.ref r0, .int x1, .int x2, .int x3] [] H Q := rfl
theorem at201_0 : jm_at 201 0 = some (.aload_n 0) := rfl
theorem at201_1 : jm_at 201 1 = some (.iconst 0) := rfl
theorem at201_2 : jm_at 201 2 = some (.putfield 380) := rfl
theorem rv201p_380 : jm_rv 201 (.putfield 380) = (0, 12, 58, 0) := rfl
theorem at201_5 : jm_at 201 5 = some (.iload_n 3) := rfl
theorem at201_6 : jm_at 201 6 = some (.ifCond .ne 5) := rfl
theorem u201_0 {S : Option (Nat × (Nat → Int32))} {H : jm_H} {Q : Option Value → jm_H → Prop} {r0 : Nat} {x1 x2 x3 : Int32} (h0 : jm_tg H r0 = 13) : jm_w S 5 201 0 [.ref r0, .int x1, .int x2, .int x3] [] H Q = if ¬ x3 = 0 then jm_w S 5 201 11 [.ref r0, .int x1, .int x2, .int x3] [] (jm_pI H r0 58 (0 : Int32)) Q else jm_w S 5 201 9 [.ref r0, .int x1, .int x2, .int x3] [] (jm_pI H r0 58 (0 : Int32)) Q := (js1 at201_0 rfl rfl rfl).trans ((jsci at201_1 rfl rfl).trans ((jspI (H := H) at201_2 rv201p_380 rfl h0 rfl).trans ((js1 at201_5 rfl rfl rfl).trans (jsif (P := ¬ x3 = 0) at201_6 rfl rfl))))
theorem at201_9 : jm_at 201 9 = some (.iconst 0) := rfl
theorem at201_10 : jm_at 201 10 = some (.ireturn) := rfl
theorem u201_9 {S : Option (Nat × (Nat → Int32))} {H : jm_H} {Q : Option Value → jm_H → Prop} {r0 : Nat} {x1 x2 x3 : Int32} : jm_w S 5 201 9 [.ref r0, .int x1, .int x2, .int x3] [] H Q = Q (some (.int (0 : Int32))) H := (jsci at201_9 rfl rfl).trans (jsret_i at201_10 rfl)
theorem at201_11 : jm_at 201 11 = some (.iload_n 3) := rfl
theorem at201_12 : jm_at 201 12 = some (.iload_n 1) := rfl
theorem at201_13 : jm_at 201 13 = some (.invokestatic 280) := rfl
theorem rv201i_280 : jm_rv 201 (.invokestatic 280) = (1, 191, 0, 0) := rfl
theorem u201_11 {S : Option (Nat × (Nat → Int32))} {H : jm_H} {Q : Option Value → jm_H → Prop} {r0 : Nat} {x1 x2 x3 : Int32} : jm_w S 5 201 11 [.ref r0, .int x1, .int x2, .int x3] [] H Q = jm_c S 191 [.int x1] H (fun v G => jm_w S 5 201 16 [.ref r0, .int x1, .int x2, .int x3] (v.toList ++ [.int x3]) G Q) := (js1 at201_11 rfl rfl rfl).trans ((js1 at201_12 rfl rfl rfl).trans (jscall (H := H) (as := [.int x1]) (q := [.int x3]) at201_13 rfl rv201i_280 (jscut rfl rfl rfl (Nat.le_of_ble_eq_true rfl)) rfl (Nat.le_of_ble_eq_true rfl) rfl rfl))
theorem at201_16 : jm_at 201 16 = some (.if_icmp .lt 8) := rfl
theorem u201_16 {S : Option (Nat × (Nat → Int32))} {H : jm_H} {Q : Option Value → jm_H → Prop} {r0 : Nat} {x1 x2 x3 p0 p1 : Int32} : jm_w S 5 201 16 [.ref r0, .int x1, .int x2, .int x3] [.int p1, .int p0] H Q = if p0 < p1 then jm_w S 5 201 24 [.ref r0, .int x1, .int x2, .int x3] [] H Q else jm_w S 5 201 19 [.ref r0, .int x1, .int x2, .int x3] [] H Q := jsif (P := p0 < p1) at201_16 rfl rfl
theorem at201_19 : jm_at 201 19 = some (.iload_n 1) := rfl
theorem at201_20 : jm_at 201 20 = some (.invokestatic 280) := rfl
theorem u201_19 {S : Option (Nat × (Nat → Int32))} {H : jm_H} {Q : Option Value → jm_H → Prop} {r0 : Nat} {x1 x2 x3 : Int32} : jm_w S 5 201 19 [.ref r0, .int x1, .int x2, .int x3] [] H Q = jm_c S 191 [.int x1] H (fun v G => jm_w S 5 201 23 [.ref r0, .int x1, .int x2, .int x3] (v.toList ++ []) G Q) := (js1 at201_19 rfl rfl rfl).trans (jscall (H := H) (as := [.int x1]) (q := []) at201_20 rfl rv201i_280 (jscut rfl rfl rfl (Nat.le_of_ble_eq_true rfl)) rfl (Nat.le_of_ble_eq_true rfl) rfl rfl)
theorem at201_23 : jm_at 201 23 = some (.ireturn) := rfl
theorem u201_23 {S : Option (Nat × (Nat → Int32))} {H : jm_H} {Q : Option Value → jm_H → Prop} {r0 : Nat} {x1 x2 x3 p0 : Int32} : jm_w S 5 201 23 [.ref r0, .int x1, .int x2, .int x3] [.int p0] H Q = Q (some (.int p0)) H := jsret_i at201_23 rfl
theorem at201_24 : jm_at 201 24 = some (.aload_n 0) := rfl
theorem at201_25 : jm_at 201 25 = some (.iload_n 1) := rfl
theorem at201_26 : jm_at 201 26 = some (.iload_n 2) := rfl
theorem at201_27 : jm_at 201 27 = some (.iload_n 3) := rfl
theorem at201_28 : jm_at 201 28 = some (.invokevirtual 345) := rfl
theorem rv201i_345 : jm_rv 201 (.invokevirtual 345) = (2, 193, 0, 0) := rfl
theorem u201_24 {S : Option (Nat × (Nat → Int32))} {H : jm_H} {Q : Option Value → jm_H → Prop} {r0 : Nat} {x1 x2 x3 : Int32} (h0 : jm_tg H r0 = 13) : jm_w S 5 201 24 [.ref r0, .int x1, .int x2, .int x3] [] H Q = jm_c S 193 [.ref r0, .int x1, .int x2, .int x3] H (fun v G => jm_w S 5 201 31 [.ref r0, .int x1, .int x2, .int x3] (v.toList ++ []) G Q) := (js1 at201_24 rfl rfl rfl).trans ((js1 at201_25 rfl rfl rfl).trans ((js1 at201_26 rfl rfl rfl).trans ((js1 at201_27 rfl rfl rfl).trans (jscall (H := H) (as := [.ref r0, .int x1, .int x2, .int x3]) (q := []) at201_28 rfl rv201i_345 (jscutV rfl rfl rfl (Nat.le_of_ble_eq_true rfl) rfl h0) rfl (Nat.le_of_ble_eq_true rfl) rfl rfl))))
theorem at201_31 : jm_at 201 31 = some (.aload_n 0) := rfl
theorem at201_32 : jm_at 201 32 = some (.iconst 2) := rfl
theorem at201_33 : jm_at 201 33 = some (.putfield 358) := rfl
theorem rv201p_358 : jm_rv 201 (.putfield 358) = (0, 12, 53, 0) := rfl
theorem at201_36 : jm_at 201 36 = some (.aload_n 0) := rfl
theorem at201_37 : jm_at 201 37 = some (.aload_n 0) := rfl
theorem at201_38 : jm_at 201 38 = some (.getfield 328) := rfl
theorem rv201g_328 : jm_rv 201 (.getfield 328) = (0, 12, 48, 0) := rfl
theorem at201_41 : jm_at 201 41 = some (.i2l) := rfl
theorem at201_42 : jm_at 201 42 = some (.putfield 361) := rfl
theorem rv201p_361 : jm_rv 201 (.putfield 361) = (0, 12, 54, 0) := rfl
theorem at201_45 : jm_at 201 45 = some (.aload_n 0) := rfl
theorem at201_46 : jm_at 201 46 = some (.aload_n 0) := rfl
theorem at201_47 : jm_at 201 47 = some (.getfield 331) := rfl
theorem rv201g_331 : jm_rv 201 (.getfield 331) = (0, 12, 49, 0) := rfl
theorem at201_50 : jm_at 201 50 = some (.putfield 365) := rfl
theorem rv201p_365 : jm_rv 201 (.putfield 365) = (0, 12, 55, 0) := rfl
theorem at201_53 : jm_at 201 53 = some (.aload_n 0) := rfl
theorem at201_54 : jm_at 201 54 = some (.iload_n 1) := rfl
theorem at201_55 : jm_at 201 55 = some (.iload_n 2) := rfl
theorem at201_56 : jm_at 201 56 = some (.invokevirtual 383) := rfl
theorem rv201i_383 : jm_rv 201 (.invokevirtual 383) = (2, 190, 0, 0) := rfl
theorem u201_31 {S : Option (Nat × (Nat → Int32))} {H : jm_H} {Q : Option Value → jm_H → Prop} {r0 : Nat} {x1 x2 x3 : Int32} (h0 : jm_tg H r0 = 13) : jm_w S 5 201 31 [.ref r0, .int x1, .int x2, .int x3] [] H Q = jm_c S 190 [.ref r0, .int x1, .int x2] (jm_pI (jm_pL (jm_pI H r0 53 (2 : Int32)) r0 54 (Int32.toInt64 (jm_I (jm_pI H r0 53 (2 : Int32)) r0 48))) r0 55 (jm_I (jm_pL (jm_pI H r0 53 (2 : Int32)) r0 54 (Int32.toInt64 (jm_I (jm_pI H r0 53 (2 : Int32)) r0 48))) r0 49)) (fun v G => jm_w S 5 201 59 [.ref r0, .int x1, .int x2, .int x3] (v.toList ++ []) G Q) := (js1 at201_31 rfl rfl rfl).trans ((jsci at201_32 rfl rfl).trans ((jspI (H := H) at201_33 rv201p_358 rfl h0 rfl).trans ((js1 at201_36 rfl rfl rfl).trans ((js1 at201_37 rfl rfl rfl).trans ((jsgI (H := (jm_pI H r0 53 (2 : Int32))) at201_38 rv201g_328 (Or.inl rfl) h0 rfl).trans ((js0 at201_41 rfl rfl rfl).trans ((jspL (H := (jm_pI H r0 53 (2 : Int32))) at201_42 rv201p_361 rfl h0 rfl).trans ((js1 at201_45 rfl rfl rfl).trans ((js1 at201_46 rfl rfl rfl).trans ((jsgI (H := (jm_pL (jm_pI H r0 53 (2 : Int32)) r0 54 (Int32.toInt64 (jm_I (jm_pI H r0 53 (2 : Int32)) r0 48)))) at201_47 rv201g_331 (Or.inl rfl) h0 rfl).trans ((jspI (H := (jm_pL (jm_pI H r0 53 (2 : Int32)) r0 54 (Int32.toInt64 (jm_I (jm_pI H r0 53 (2 : Int32)) r0 48)))) at201_50 rv201p_365 rfl h0 rfl).trans ((js1 at201_53 rfl rfl rfl).trans ((js1 at201_54 rfl rfl rfl).trans ((js1 at201_55 rfl rfl rfl).trans (jscall (H := (jm_pI (jm_pL (jm_pI H r0 53 (2 : Int32)) r0 54 (Int32.toInt64 (jm_I (jm_pI H r0 53 (2 : Int32)) r0 48))) r0 55 (jm_I (jm_pL (jm_pI H r0 53 (2 : Int32)) r0 54 (Int32.toInt64 (jm_I (jm_pI H r0 53 (2 : Int32)) r0 48))) r0 49))) (as := [.ref r0, .int x1, .int x2]) (q := []) at201_56 rfl rv201i_383 (jscutV rfl rfl rfl (Nat.le_of_ble_eq_true rfl) rfl h0) rfl (Nat.le_of_ble_eq_true rfl) rfl rfl)))))))))))))))
theorem at201_59 : jm_at 201 59 = some (.ireturn) := rfl
theorem u201_59 {S : Option (Nat × (Nat → Int32))} {H : jm_H} {Q : Option Value → jm_H → Prop} {r0 : Nat} {x1 x2 x3 p0 : Int32} : jm_w S 5 201 59 [.ref r0, .int x1, .int x2, .int x3] [.int p0] H Q = Q (some (.int p0)) H := jsret_i at201_59 rfl
theorem en201 {S : Option (Nat × (Nat → Int32))} {H : jm_H} {Q : Option Value → jm_H → Prop} {r0 : Nat} {x1 x2 x3 : Int32} : jm_c S 201 [.ref r0, .int x1, .int x2, .int x3] H Q = jm_w S 5 201 0 [.ref r0, .int x1, .int x2, .int x3] [] H Q := rfl
theorem at202_0 : jm_at 202 0 = some (.aload_n 0) := rfl
theorem at202_1 : jm_at 202 1 = some (.invokevirtual 273) := rfl
theorem rv202i_273 : jm_rv 202 (.invokevirtual 273) = (2, 203, 0, 0) := rfl
theorem u202_0 {S : Option (Nat × (Nat → Int32))} {H : jm_H} {Q : Option Value → jm_H → Prop} {r0 : Nat} {x1 x2 x3 x4 : Int32} (h0 : jm_tg H r0 = 13) : jm_w S 6 202 0 [.ref r0, .int x1, .int x2, .int x3, .int x4, .null] [] H Q = jm_c S 203 [.ref r0] H (fun v G => jm_w S 6 202 4 [.ref r0, .int x1, .int x2, .int x3, .int x4, .null] (v.toList ++ []) G Q) := (js1 at202_0 rfl rfl rfl).trans (jscall (H := H) (as := [.ref r0]) (q := []) at202_1 rfl rv202i_273 (jscutV rfl rfl rfl (Nat.le_of_ble_eq_true rfl) rfl h0) rfl (Nat.le_of_ble_eq_true rfl) rfl rfl)
theorem at202_4 : jm_at 202 4 = some (.iload_n 3) := rfl
theorem at202_5 : jm_at 202 5 = some (.istore 5) := rfl
theorem u202_4 {S : Option (Nat × (Nat → Int32))} {H : jm_H} {Q : Option Value → jm_H → Prop} {r0 : Nat} {x1 x2 x3 x4 : Int32} : jm_w S 6 202 4 [.ref r0, .int x1, .int x2, .int x3, .int x4, .null] [] H Q = jm_w S 6 202 7 [.ref r0, .int x1, .int x2, .int x3, .int x4, .int x3] [] H Q := (js1 at202_4 rfl rfl rfl).trans (js1 at202_5 rfl rfl rfl)
theorem at202_7 : jm_at 202 7 = some (.iload 5) := rfl
theorem at202_9 : jm_at 202 9 = some (.iload_n 3) := rfl
theorem at202_10 : jm_at 202 10 = some (.iload 4) := rfl
theorem at202_12 : jm_at 202 12 = some (.iadd) := rfl
theorem at202_13 : jm_at 202 13 = some (.if_icmp .ge 67) := rfl
theorem u202_7 {S : Option (Nat × (Nat → Int32))} {H : jm_H} {Q : Option Value → jm_H → Prop} {r0 : Nat} {x1 x2 x3 x4 x5 : Int32} : jm_w S 6 202 7 [.ref r0, .int x1, .int x2, .int x3, .int x4, .int x5] [] H Q = if (x3 + x4) ≤ x5 then jm_w S 6 202 80 [.ref r0, .int x1, .int x2, .int x3, .int x4, .int x5] [] H Q else jm_w S 6 202 16 [.ref r0, .int x1, .int x2, .int x3, .int x4, .int x5] [] H Q := (js1 at202_7 rfl rfl rfl).trans ((js1 at202_9 rfl rfl rfl).trans ((js1 at202_10 rfl rfl rfl).trans ((js0 at202_12 rfl rfl rfl).trans (jsif (P := (x3 + x4) ≤ x5) at202_13 rfl rfl))))
theorem at202_16 : jm_at 202 16 = some (.iload_n 1) := rfl
theorem at202_17 : jm_at 202 17 = some (.aload_n 0) := rfl
theorem at202_18 : jm_at 202 18 = some (.getfield 79) := rfl
theorem rv202g_79 : jm_rv 202 (.getfield 79) = (0, 12, 37, 0) := rfl
theorem at202_21 : jm_at 202 21 = some (.iload 5) := rfl
theorem at202_23 : jm_at 202 23 = some (.iaload) := rfl
theorem at202_24 : jm_at 202 24 = some (.invokestatic 276) := rfl
theorem rv202i_276 : jm_rv 202 (.invokestatic 276) = (1, 204, 0, 0) := rfl
theorem u202_16 {S : Option (Nat × (Nat → Int32))} {H : jm_H} {Q : Option Value → jm_H → Prop} {r0 : Nat} {x1 x2 x3 x4 x5 : Int32} (h0 : jm_tg H r0 = 13) (h1 : ¬ jm_R H r0 37 = 0) (h2 : ¬ (x5 < 0 ∨ jm_ln H (jm_R H r0 37) ≤ Int32.toNatClampNeg x5)) (h3 : ¬ (jm_R H r0 37) = 1) (h4 : jm_tg H (jm_R H r0 37) = 100) : jm_w S 6 202 16 [.ref r0, .int x1, .int x2, .int x3, .int x4, .int x5] [] H Q = jm_c S 204 [.int x1, .int (jm_I H (jm_R H r0 37) (Int32.toNatClampNeg x5))] H (fun v G => jm_w S 6 202 27 [.ref r0, .int x1, .int x2, .int x3, .int x4, .int x5] (v.toList ++ []) G Q) := (js1 at202_16 rfl rfl rfl).trans ((js1 at202_17 rfl rfl rfl).trans ((jsgR (H := H) at202_18 rv202g_79 rfl h0 h1 rfl).trans ((js1 at202_21 rfl rfl rfl).trans ((jsial (H := H) at202_23 h3 h4 h2 rfl).trans (jscall (H := H) (as := [.int x1, .int (jm_I H (jm_R H r0 37) (Int32.toNatClampNeg x5))]) (q := []) at202_24 rfl rv202i_276 (jscut rfl rfl rfl (Nat.le_of_ble_eq_true rfl)) rfl (Nat.le_of_ble_eq_true rfl) rfl rfl)))))
theorem at202_27 : jm_at 202 27 = some (.ifCond .ne 19) := rfl
theorem u202_27 {S : Option (Nat × (Nat → Int32))} {H : jm_H} {Q : Option Value → jm_H → Prop} {r0 : Nat} {x1 x2 x3 x4 x5 p0 : Int32} : jm_w S 6 202 27 [.ref r0, .int x1, .int x2, .int x3, .int x4, .int x5] [.int p0] H Q = if ¬ p0 = 0 then jm_w S 6 202 46 [.ref r0, .int x1, .int x2, .int x3, .int x4, .int x5] [] H Q else jm_w S 6 202 30 [.ref r0, .int x1, .int x2, .int x3, .int x4, .int x5] [] H Q := jsif (P := ¬ p0 = 0) at202_27 rfl rfl
theorem at202_30 : jm_at 202 30 = some (.iload_n 1) := rfl
theorem at202_31 : jm_at 202 31 = some (.aload_n 0) := rfl
theorem at202_32 : jm_at 202 32 = some (.getfield 79) := rfl
theorem at202_35 : jm_at 202 35 = some (.iload 5) := rfl
theorem at202_37 : jm_at 202 37 = some (.iconst 1) := rfl
theorem at202_38 : jm_at 202 38 = some (.iadd) := rfl
theorem at202_39 : jm_at 202 39 = some (.iaload) := rfl
theorem at202_40 : jm_at 202 40 = some (.invokestatic 276) := rfl
theorem u202_30 {S : Option (Nat × (Nat → Int32))} {H : jm_H} {Q : Option Value → jm_H → Prop} {r0 : Nat} {x1 x2 x3 x4 x5 : Int32} (h0 : jm_tg H r0 = 13) (h1 : ¬ jm_R H r0 37 = 0) (h2 : ¬ ((x5 + (1 : Int32)) < 0 ∨ jm_ln H (jm_R H r0 37) ≤ Int32.toNatClampNeg (x5 + (1 : Int32)))) (h3 : ¬ (jm_R H r0 37) = 1) (h4 : jm_tg H (jm_R H r0 37) = 100) : jm_w S 6 202 30 [.ref r0, .int x1, .int x2, .int x3, .int x4, .int x5] [] H Q = jm_c S 204 [.int x1, .int (jm_I H (jm_R H r0 37) (Int32.toNatClampNeg (x5 + (1 : Int32))))] H (fun v G => jm_w S 6 202 43 [.ref r0, .int x1, .int x2, .int x3, .int x4, .int x5] (v.toList ++ []) G Q) := (js1 at202_30 rfl rfl rfl).trans ((js1 at202_31 rfl rfl rfl).trans ((jsgR (H := H) at202_32 rv202g_79 rfl h0 h1 rfl).trans ((js1 at202_35 rfl rfl rfl).trans ((jsci at202_37 rfl rfl).trans ((js0 at202_38 rfl rfl rfl).trans ((jsial (H := H) at202_39 h3 h4 h2 rfl).trans (jscall (H := H) (as := [.int x1, .int (jm_I H (jm_R H r0 37) (Int32.toNatClampNeg (x5 + (1 : Int32))))]) (q := []) at202_40 rfl rv202i_276 (jscut rfl rfl rfl (Nat.le_of_ble_eq_true rfl)) rfl (Nat.le_of_ble_eq_true rfl) rfl rfl)))))))
theorem at202_43 : jm_at 202 43 = some (.ifCond .eq 8) := rfl
theorem u202_43 {S : Option (Nat × (Nat → Int32))} {H : jm_H} {Q : Option Value → jm_H → Prop} {r0 : Nat} {x1 x2 x3 x4 x5 p0 : Int32} : jm_w S 6 202 43 [.ref r0, .int x1, .int x2, .int x3, .int x4, .int x5] [.int p0] H Q = if p0 = 0 then jm_w S 6 202 51 [.ref r0, .int x1, .int x2, .int x3, .int x4, .int x5] [] H Q else jm_w S 6 202 46 [.ref r0, .int x1, .int x2, .int x3, .int x4, .int x5] [] H Q := jsif (P := p0 = 0) at202_43 rfl rfl
theorem at202_46 : jm_at 202 46 = some (.iload_n 1) := rfl
theorem at202_47 : jm_at 202 47 = some (.invokestatic 280) := rfl
theorem rv202i_280 : jm_rv 202 (.invokestatic 280) = (1, 191, 0, 0) := rfl
theorem u202_46 {S : Option (Nat × (Nat → Int32))} {H : jm_H} {Q : Option Value → jm_H → Prop} {r0 : Nat} {x1 x2 x3 x4 x5 : Int32} : jm_w S 6 202 46 [.ref r0, .int x1, .int x2, .int x3, .int x4, .int x5] [] H Q = jm_c S 191 [.int x1] H (fun v G => jm_w S 6 202 50 [.ref r0, .int x1, .int x2, .int x3, .int x4, .int x5] (v.toList ++ []) G Q) := (js1 at202_46 rfl rfl rfl).trans (jscall (H := H) (as := [.int x1]) (q := []) at202_47 rfl rv202i_280 (jscut rfl rfl rfl (Nat.le_of_ble_eq_true rfl)) rfl (Nat.le_of_ble_eq_true rfl) rfl rfl)
theorem at202_50 : jm_at 202 50 = some (.ireturn) := rfl
theorem u202_50 {S : Option (Nat × (Nat → Int32))} {H : jm_H} {Q : Option Value → jm_H → Prop} {r0 : Nat} {x1 x2 x3 x4 x5 p0 : Int32} : jm_w S 6 202 50 [.ref r0, .int x1, .int x2, .int x3, .int x4, .int x5] [.int p0] H Q = Q (some (.int p0)) H := jsret_i at202_50 rfl
theorem at202_51 : jm_at 202 51 = some (.aload_n 0) := rfl
theorem at202_52 : jm_at 202 52 = some (.iload_n 1) := rfl
theorem at202_53 : jm_at 202 53 = some (.iload_n 2) := rfl
theorem at202_54 : jm_at 202 54 = some (.aload_n 0) := rfl
theorem at202_55 : jm_at 202 55 = some (.getfield 79) := rfl
theorem at202_58 : jm_at 202 58 = some (.iload 5) := rfl
theorem at202_60 : jm_at 202 60 = some (.iaload) := rfl
theorem at202_61 : jm_at 202 61 = some (.aload_n 0) := rfl
theorem at202_62 : jm_at 202 62 = some (.getfield 79) := rfl
theorem at202_65 : jm_at 202 65 = some (.iload 5) := rfl
theorem at202_67 : jm_at 202 67 = some (.iconst 1) := rfl
theorem at202_68 : jm_at 202 68 = some (.iadd) := rfl
theorem at202_69 : jm_at 202 69 = some (.iaload) := rfl
theorem at202_70 : jm_at 202 70 = some (.iconst 1) := rfl
theorem at202_71 : jm_at 202 71 = some (.invokevirtual 283) := rfl
theorem rv202i_283 : jm_rv 202 (.invokevirtual 283) = (2, 205, 0, 0) := rfl
theorem u202_51 {S : Option (Nat × (Nat → Int32))} {H : jm_H} {Q : Option Value → jm_H → Prop} {r0 : Nat} {x1 x2 x3 x4 x5 : Int32} (h0 : jm_tg H r0 = 13) (h1 : ¬ jm_R H r0 37 = 0) (h2 : ¬ (x5 < 0 ∨ jm_ln H (jm_R H r0 37) ≤ Int32.toNatClampNeg x5)) (h3 : ¬ (jm_R H r0 37) = 1) (h4 : jm_tg H (jm_R H r0 37) = 100) (h5 : ¬ ((x5 + (1 : Int32)) < 0 ∨ jm_ln H (jm_R H r0 37) ≤ Int32.toNatClampNeg (x5 + (1 : Int32)))) : jm_w S 6 202 51 [.ref r0, .int x1, .int x2, .int x3, .int x4, .int x5] [] H Q = jm_c S 205 [.ref r0, .int x1, .int x2, .int (jm_I H (jm_R H r0 37) (Int32.toNatClampNeg x5)), .int (jm_I H (jm_R H r0 37) (Int32.toNatClampNeg (x5 + (1 : Int32)))), .int (1 : Int32)] H (fun v G => jm_w S 6 202 74 [.ref r0, .int x1, .int x2, .int x3, .int x4, .int x5] (v.toList ++ []) G Q) := (js1 at202_51 rfl rfl rfl).trans ((js1 at202_52 rfl rfl rfl).trans ((js1 at202_53 rfl rfl rfl).trans ((js1 at202_54 rfl rfl rfl).trans ((jsgR (H := H) at202_55 rv202g_79 rfl h0 h1 rfl).trans ((js1 at202_58 rfl rfl rfl).trans ((jsial (H := H) at202_60 h3 h4 h2 rfl).trans ((js1 at202_61 rfl rfl rfl).trans ((jsgR (H := H) at202_62 rv202g_79 rfl h0 h1 rfl).trans ((js1 at202_65 rfl rfl rfl).trans ((jsci at202_67 rfl rfl).trans ((js0 at202_68 rfl rfl rfl).trans ((jsial (H := H) at202_69 h3 h4 h5 rfl).trans ((jsci at202_70 rfl rfl).trans (jscall (H := H) (as := [.ref r0, .int x1, .int x2, .int (jm_I H (jm_R H r0 37) (Int32.toNatClampNeg x5)), .int (jm_I H (jm_R H r0 37) (Int32.toNatClampNeg (x5 + (1 : Int32)))), .int (1 : Int32)]) (q := []) at202_71 rfl rv202i_283 (jscutV rfl rfl rfl (Nat.le_of_ble_eq_true rfl) rfl h0) rfl (Nat.le_of_ble_eq_true rfl) rfl rfl))))))))))))))
theorem at202_74 : jm_at 202 74 = some (.iinc 5 2) := rfl
theorem at202_77 : jm_at 202 77 = some (.goto (-70)) := rfl
theorem u202_74 {S : Option (Nat × (Nat → Int32))} {H : jm_H} {Q : Option Value → jm_H → Prop} {r0 : Nat} {x1 x2 x3 x4 x5 : Int32} : jm_w S 6 202 74 [.ref r0, .int x1, .int x2, .int x3, .int x4, .int x5] [] H Q = jm_w S 6 202 7 [.ref r0, .int x1, .int x2, .int x3, .int x4, .int (x5 + 2)] [] H Q := (jsinc at202_74 rfl rfl rfl).trans (js2 at202_77 rfl rfl)
theorem at202_80 : jm_at 202 80 = some (.aload_n 0) := rfl
theorem at202_81 : jm_at 202 81 = some (.iload_n 1) := rfl
theorem at202_82 : jm_at 202 82 = some (.iload_n 2) := rfl
theorem at202_83 : jm_at 202 83 = some (.invokevirtual 287) := rfl
theorem rv202i_287 : jm_rv 202 (.invokevirtual 287) = (2, 208, 0, 0) := rfl
theorem u202_80 {S : Option (Nat × (Nat → Int32))} {H : jm_H} {Q : Option Value → jm_H → Prop} {r0 : Nat} {x1 x2 x3 x4 x5 : Int32} (h0 : jm_tg H r0 = 13) : jm_w S 6 202 80 [.ref r0, .int x1, .int x2, .int x3, .int x4, .int x5] [] H Q = jm_c S 208 [.ref r0, .int x1, .int x2] H (fun v G => jm_w S 6 202 86 [.ref r0, .int x1, .int x2, .int x3, .int x4, .int x5] (v.toList ++ []) G Q) := (js1 at202_80 rfl rfl rfl).trans ((js1 at202_81 rfl rfl rfl).trans ((js1 at202_82 rfl rfl rfl).trans (jscall (H := H) (as := [.ref r0, .int x1, .int x2]) (q := []) at202_83 rfl rv202i_287 (jscutV rfl rfl rfl (Nat.le_of_ble_eq_true rfl) rfl h0) rfl (Nat.le_of_ble_eq_true rfl) rfl rfl)))
theorem at202_86 : jm_at 202 86 = some (.ireturn) := rfl
theorem u202_86 {S : Option (Nat × (Nat → Int32))} {H : jm_H} {Q : Option Value → jm_H → Prop} {r0 : Nat} {x1 x2 x3 x4 x5 p0 : Int32} : jm_w S 6 202 86 [.ref r0, .int x1, .int x2, .int x3, .int x4, .int x5] [.int p0] H Q = Q (some (.int p0)) H := jsret_i at202_86 rfl
theorem en202 {S : Option (Nat × (Nat → Int32))} {H : jm_H} {Q : Option Value → jm_H → Prop} {r0 : Nat} {x1 x2 x3 x4 : Int32} : jm_c S 202 [.ref r0, .int x1, .int x2, .int x3, .int x4] H Q = jm_w S 6 202 0 [.ref r0, .int x1, .int x2, .int x3, .int x4, .null] [] H Q := rfl
theorem at203_0 : jm_at 203 0 = some (.aload_n 0) := rfl
theorem at203_1 : jm_at 203 1 = some (.iconst 0) := rfl
theorem at203_2 : jm_at 203 2 = some (.putfield 308) := rfl
theorem rv203p_308 : jm_rv 203 (.putfield 308) = (0, 12, 52, 0) := rfl
theorem at203_5 : jm_at 203 5 = some (.iconst 0) := rfl
theorem at203_6 : jm_at 203 6 = some (.istore_n 1) := rfl
theorem u203_0 {S : Option (Nat × (Nat → Int32))} {H : jm_H} {Q : Option Value → jm_H → Prop} {r0 : Nat} (h0 : jm_tg H r0 = 13) : jm_w S 1 203 0 [.ref r0, .null] [] H Q = jm_w S 1 203 7 [.ref r0, .int (0 : Int32)] [] (jm_pI H r0 52 (0 : Int32)) Q := (js1 at203_0 rfl rfl rfl).trans ((jsci at203_1 rfl rfl).trans ((jspI (H := H) at203_2 rv203p_308 rfl h0 rfl).trans ((jsci at203_5 rfl rfl).trans (js1 at203_6 rfl rfl rfl))))
theorem at203_7 : jm_at 203 7 = some (.iload_n 1) := rfl
theorem at203_8 : jm_at 203 8 = some (.bipush 16) := rfl
theorem at203_10 : jm_at 203 10 = some (.if_icmp .ge 16) := rfl
theorem u203_7 {S : Option (Nat × (Nat → Int32))} {H : jm_H} {Q : Option Value → jm_H → Prop} {r0 : Nat} {x1 : Int32} : jm_w S 1 203 7 [.ref r0, .int x1] [] H Q = if (16 : Int32) ≤ x1 then jm_w S 1 203 26 [.ref r0, .int x1] [] H Q else jm_w S 1 203 13 [.ref r0, .int x1] [] H Q := (js1 at203_7 rfl rfl rfl).trans ((jscb at203_8 rfl rfl).trans (jsif (P := (16 : Int32) ≤ x1) at203_10 rfl rfl))
theorem at203_13 : jm_at 203 13 = some (.aload_n 0) := rfl
theorem at203_14 : jm_at 203 14 = some (.getfield 92) := rfl
theorem rv203g_92 : jm_rv 203 (.getfield 92) = (0, 12, 50, 0) := rfl
theorem at203_17 : jm_at 203 17 = some (.iload_n 1) := rfl
theorem at203_18 : jm_at 203 18 = some (.iconst 0) := rfl
theorem at203_19 : jm_at 203 19 = some (.iastore) := rfl
theorem at203_20 : jm_at 203 20 = some (.iinc 1 1) := rfl
theorem at203_23 : jm_at 203 23 = some (.goto (-16)) := rfl
theorem u203_13 {S : Option (Nat × (Nat → Int32))} {H : jm_H} {Q : Option Value → jm_H → Prop} {r0 : Nat} {x1 : Int32} (h0 : jm_tg H r0 = 13) (h1 : ¬ jm_R H r0 50 = 0) (h2 : ¬ (x1 < 0 ∨ jm_ln H (jm_R H r0 50) ≤ Int32.toNatClampNeg x1)) (h3 : jm_tg H (jm_R H r0 50) = 100) : jm_w S 1 203 13 [.ref r0, .int x1] [] H Q = jm_w S 1 203 7 [.ref r0, .int (x1 + 1)] [] (jm_pI H (jm_R H r0 50) (Int32.toNatClampNeg x1) (0 : Int32)) Q := (js1 at203_13 rfl rfl rfl).trans ((jsgR (H := H) at203_14 rv203g_92 rfl h0 h1 rfl).trans ((js1 at203_17 rfl rfl rfl).trans ((jsci at203_18 rfl rfl).trans ((jsias (H := H) at203_19 h3 h2 rfl).trans ((jsinc at203_20 rfl rfl rfl).trans (js2 at203_23 rfl rfl))))))
theorem at203_26 : jm_at 203 26 = some (.return_) := rfl
theorem u203_26 {S : Option (Nat × (Nat → Int32))} {H : jm_H} {Q : Option Value → jm_H → Prop} {r0 : Nat} {x1 : Int32} : jm_w S 1 203 26 [.ref r0, .int x1] [] H Q = Q none H := jsret_v at203_26 rfl
theorem en203 {S : Option (Nat × (Nat → Int32))} {H : jm_H} {Q : Option Value → jm_H → Prop} {r0 : Nat} : jm_c S 203 [.ref r0] H Q = jm_w S 1 203 0 [.ref r0, .null] [] H Q := rfl
theorem at204_0 : jm_at 204 0 = some (.iload_n 1) := rfl
theorem at204_1 : jm_at 204 1 = some (.iload_n 0) := rfl
theorem at204_2 : jm_at 204 2 = some (.invokestatic 280) := rfl
theorem rv204i_280 : jm_rv 204 (.invokestatic 280) = (1, 191, 0, 0) := rfl
theorem u204_0 {S : Option (Nat × (Nat → Int32))} {H : jm_H} {Q : Option Value → jm_H → Prop} {x0 x1 : Int32} : jm_w S 2 204 0 [.int x0, .int x1] [] H Q = jm_c S 191 [.int x0] H (fun v G => jm_w S 2 204 5 [.int x0, .int x1] (v.toList ++ [.int x1]) G Q) := (js1 at204_0 rfl rfl rfl).trans ((js1 at204_1 rfl rfl rfl).trans (jscall (H := H) (as := [.int x0]) (q := [.int x1]) at204_2 rfl rv204i_280 (jscut rfl rfl rfl (Nat.le_of_ble_eq_true rfl)) rfl (Nat.le_of_ble_eq_true rfl) rfl rfl))
theorem at204_5 : jm_at 204 5 = some (.if_icmp .ne 7) := rfl
theorem u204_5 {S : Option (Nat × (Nat → Int32))} {H : jm_H} {Q : Option Value → jm_H → Prop} {x0 x1 p0 p1 : Int32} : jm_w S 2 204 5 [.int x0, .int x1] [.int p1, .int p0] H Q = if ¬ p0 = p1 then jm_w S 2 204 12 [.int x0, .int x1] [] H Q else jm_w S 2 204 8 [.int x0, .int x1] [] H Q := jsif (P := ¬ p0 = p1) at204_5 rfl rfl
theorem at204_8 : jm_at 204 8 = some (.iconst 1) := rfl
theorem at204_9 : jm_at 204 9 = some (.goto 4) := rfl
theorem u204_8 {S : Option (Nat × (Nat → Int32))} {H : jm_H} {Q : Option Value → jm_H → Prop} {x0 x1 : Int32} : jm_w S 2 204 8 [.int x0, .int x1] [] H Q = jm_w S 2 204 13 [.int x0, .int x1] [.int (1 : Int32)] H Q := (jsci at204_8 rfl rfl).trans (js2 at204_9 rfl rfl)
theorem at204_12 : jm_at 204 12 = some (.iconst 0) := rfl
theorem u204_12 {S : Option (Nat × (Nat → Int32))} {H : jm_H} {Q : Option Value → jm_H → Prop} {x0 x1 : Int32} : jm_w S 2 204 12 [.int x0, .int x1] [] H Q = jm_w S 2 204 13 [.int x0, .int x1] [.int (0 : Int32)] H Q := jsci at204_12 rfl rfl
theorem at204_13 : jm_at 204 13 = some (.ireturn) := rfl
theorem u204_13 {S : Option (Nat × (Nat → Int32))} {H : jm_H} {Q : Option Value → jm_H → Prop} {x0 x1 p0 : Int32} (h0 : p0 = 0 ∨ p0 = 1) : jm_w S 2 204 13 [.int x0, .int x1] [.int p0] H Q = Q (some (.int p0)) H := jsret_z at204_13 rfl h0
theorem en204 {S : Option (Nat × (Nat → Int32))} {H : jm_H} {Q : Option Value → jm_H → Prop} {x0 x1 : Int32} : jm_c S 204 [.int x0, .int x1] H Q = jm_w S 2 204 0 [.int x0, .int x1] [] H Q := rfl
theorem at205_0 : jm_at 205 0 = some (.iload_n 3) := rfl
theorem at205_1 : jm_at 205 1 = some (.ifCond .eq 8) := rfl
theorem u205_0 {S : Option (Nat × (Nat → Int32))} {H : jm_H} {Q : Option Value → jm_H → Prop} {r0 : Nat} {x1 x2 x3 x4 x5 : Int32} : jm_w S 4 205 0 [.ref r0, .int x1, .int x2, .int x3, .int x4, .int x5, .null, .null, .null] [] H Q = if x3 = 0 then jm_w S 4 205 9 [.ref r0, .int x1, .int x2, .int x3, .int x4, .int x5, .null, .null, .null] [] H Q else jm_w S 4 205 4 [.ref r0, .int x1, .int x2, .int x3, .int x4, .int x5, .null, .null, .null] [] H Q := (js1 at205_0 rfl rfl rfl).trans (jsif (P := x3 = 0) at205_1 rfl rfl)
theorem at205_4 : jm_at 205 4 = some (.iload 4) := rfl
theorem at205_6 : jm_at 205 6 = some (.ifCond .ne 4) := rfl
theorem u205_4 {S : Option (Nat × (Nat → Int32))} {H : jm_H} {Q : Option Value → jm_H → Prop} {r0 : Nat} {x1 x2 x3 x4 x5 : Int32} : jm_w S 4 205 4 [.ref r0, .int x1, .int x2, .int x3, .int x4, .int x5, .null, .null, .null] [] H Q = if ¬ x4 = 0 then jm_w S 4 205 10 [.ref r0, .int x1, .int x2, .int x3, .int x4, .int x5, .null, .null, .null] [] H Q else jm_w S 4 205 9 [.ref r0, .int x1, .int x2, .int x3, .int x4, .int x5, .null, .null, .null] [] H Q := (js1 at205_4 rfl rfl rfl).trans (jsif (P := ¬ x4 = 0) at205_6 rfl rfl)
theorem at205_9 : jm_at 205 9 = some (.return_) := rfl
theorem u205_9 {S : Option (Nat × (Nat → Int32))} {H : jm_H} {Q : Option Value → jm_H → Prop} {r0 : Nat} {x1 x2 x3 x4 x5 : Int32} : jm_w S 4 205 9 [.ref r0, .int x1, .int x2, .int x3, .int x4, .int x5, .null, .null, .null] [] H Q = Q none H := jsret_v at205_9 rfl
theorem at205_10 : jm_at 205 10 = some (.aload_n 0) := rfl
theorem at205_11 : jm_at 205 11 = some (.iload_n 1) := rfl
theorem at205_12 : jm_at 205 12 = some (.iload_n 2) := rfl
theorem at205_13 : jm_at 205 13 = some (.iload_n 3) := rfl
theorem at205_14 : jm_at 205 14 = some (.invokevirtual 345) := rfl
theorem rv205i_345 : jm_rv 205 (.invokevirtual 345) = (2, 193, 0, 0) := rfl
theorem u205_10 {S : Option (Nat × (Nat → Int32))} {H : jm_H} {Q : Option Value → jm_H → Prop} {r0 : Nat} {x1 x2 x3 x4 x5 : Int32} (h0 : jm_tg H r0 = 13) : jm_w S 4 205 10 [.ref r0, .int x1, .int x2, .int x3, .int x4, .int x5, .null, .null, .null] [] H Q = jm_c S 193 [.ref r0, .int x1, .int x2, .int x3] H (fun v G => jm_w S 4 205 17 [.ref r0, .int x1, .int x2, .int x3, .int x4, .int x5, .null, .null, .null] (v.toList ++ []) G Q) := (js1 at205_10 rfl rfl rfl).trans ((js1 at205_11 rfl rfl rfl).trans ((js1 at205_12 rfl rfl rfl).trans ((js1 at205_13 rfl rfl rfl).trans (jscall (H := H) (as := [.ref r0, .int x1, .int x2, .int x3]) (q := []) at205_14 rfl rv205i_345 (jscutV rfl rfl rfl (Nat.le_of_ble_eq_true rfl) rfl h0) rfl (Nat.le_of_ble_eq_true rfl) rfl rfl))))
theorem at205_17 : jm_at 205 17 = some (.aload_n 0) := rfl
theorem at205_18 : jm_at 205 18 = some (.getfield 328) := rfl
theorem rv205g_328 : jm_rv 205 (.getfield 328) = (0, 12, 48, 0) := rfl
theorem at205_21 : jm_at 205 21 = some (.i2l) := rfl
theorem at205_22 : jm_at 205 22 = some (.lstore 6) := rfl
theorem at205_24 : jm_at 205 24 = some (.aload_n 0) := rfl
theorem at205_25 : jm_at 205 25 = some (.getfield 331) := rfl
theorem rv205g_331 : jm_rv 205 (.getfield 331) = (0, 12, 49, 0) := rfl
theorem at205_28 : jm_at 205 28 = some (.istore 8) := rfl
theorem at205_30 : jm_at 205 30 = some (.aload_n 0) := rfl
theorem at205_31 : jm_at 205 31 = some (.iload_n 1) := rfl
theorem at205_32 : jm_at 205 32 = some (.iload_n 2) := rfl
theorem at205_33 : jm_at 205 33 = some (.iload 4) := rfl
theorem at205_35 : jm_at 205 35 = some (.invokevirtual 345) := rfl
theorem u205_17 {S : Option (Nat × (Nat → Int32))} {H : jm_H} {Q : Option Value → jm_H → Prop} {r0 : Nat} {x1 x2 x3 x4 x5 : Int32} (h0 : jm_tg H r0 = 13) : jm_w S 4 205 17 [.ref r0, .int x1, .int x2, .int x3, .int x4, .int x5, .null, .null, .null] [] H Q = jm_c S 193 [.ref r0, .int x1, .int x2, .int x4] H (fun v G => jm_w S 4 205 38 [.ref r0, .int x1, .int x2, .int x3, .int x4, .int x5, .long (Int32.toInt64 (jm_I H r0 48)), .null, .int (jm_I H r0 49)] (v.toList ++ []) G Q) := (js1 at205_17 rfl rfl rfl).trans ((jsgI (H := H) at205_18 rv205g_328 (Or.inl rfl) h0 rfl).trans ((js0 at205_21 rfl rfl rfl).trans ((js1 at205_22 rfl rfl rfl).trans ((js1 at205_24 rfl rfl rfl).trans ((jsgI (H := H) at205_25 rv205g_331 (Or.inl rfl) h0 rfl).trans ((js1 at205_28 rfl rfl rfl).trans ((js1 at205_30 rfl rfl rfl).trans ((js1 at205_31 rfl rfl rfl).trans ((js1 at205_32 rfl rfl rfl).trans ((js1 at205_33 rfl rfl rfl).trans (jscall (H := H) (as := [.ref r0, .int x1, .int x2, .int x4]) (q := []) at205_35 rfl rv205i_345 (jscutV rfl rfl rfl (Nat.le_of_ble_eq_true rfl) rfl h0) rfl (Nat.le_of_ble_eq_true rfl) rfl rfl)))))))))))
theorem at205_38 : jm_at 205 38 = some (.aload_n 0) := rfl
theorem at205_39 : jm_at 205 39 = some (.lload 6) := rfl
theorem at205_41 : jm_at 205 41 = some (.aload_n 0) := rfl
theorem at205_42 : jm_at 205 42 = some (.getfield 328) := rfl
theorem at205_45 : jm_at 205 45 = some (.i2l) := rfl
theorem at205_46 : jm_at 205 46 = some (.lmul) := rfl
theorem at205_47 : jm_at 205 47 = some (.iload 8) := rfl
theorem at205_49 : jm_at 205 49 = some (.aload_n 0) := rfl
theorem at205_50 : jm_at 205 50 = some (.getfield 331) := rfl
theorem at205_53 : jm_at 205 53 = some (.iadd) := rfl
theorem at205_54 : jm_at 205 54 = some (.iload 5) := rfl
theorem at205_56 : jm_at 205 56 = some (.iload_n 1) := rfl
theorem at205_57 : jm_at 205 57 = some (.iload_n 3) := rfl
theorem at205_58 : jm_at 205 58 = some (.invokestatic 348) := rfl
theorem rv205i_348 : jm_rv 205 (.invokestatic 348) = (1, 206, 0, 0) := rfl
theorem u205_38 {S : Option (Nat × (Nat → Int32))} {H : jm_H} {Q : Option Value → jm_H → Prop} {r0 : Nat} {x1 x2 x3 x4 x5 x8 : Int32} {y6 : Int64} (h0 : jm_tg H r0 = 13) : jm_w S 4 205 38 [.ref r0, .int x1, .int x2, .int x3, .int x4, .int x5, .long y6, .null, .int x8] [] H Q = jm_c S 206 [.int x1, .int x3] H (fun v G => jm_w S 4 205 61 [.ref r0, .int x1, .int x2, .int x3, .int x4, .int x5, .long y6, .null, .int x8] (v.toList ++ [.int x5, .int (x8 + (jm_I H r0 49)), .long (y6 * (Int32.toInt64 (jm_I H r0 48))), .ref r0]) G Q) := (js1 at205_38 rfl rfl rfl).trans ((js1 at205_39 rfl rfl rfl).trans ((js1 at205_41 rfl rfl rfl).trans ((jsgI (H := H) at205_42 rv205g_328 (Or.inl rfl) h0 rfl).trans ((js0 at205_45 rfl rfl rfl).trans ((js0 at205_46 rfl rfl rfl).trans ((js1 at205_47 rfl rfl rfl).trans ((js1 at205_49 rfl rfl rfl).trans ((jsgI (H := H) at205_50 rv205g_331 (Or.inl rfl) h0 rfl).trans ((js0 at205_53 rfl rfl rfl).trans ((js1 at205_54 rfl rfl rfl).trans ((js1 at205_56 rfl rfl rfl).trans ((js1 at205_57 rfl rfl rfl).trans (jscall (H := H) (as := [.int x1, .int x3]) (q := [.int x5, .int (x8 + (jm_I H r0 49)), .long (y6 * (Int32.toInt64 (jm_I H r0 48))), .ref r0]) at205_58 rfl rv205i_348 (jscut rfl rfl rfl (Nat.le_of_ble_eq_true rfl)) rfl (Nat.le_of_ble_eq_true rfl) rfl rfl)))))))))))))
theorem at205_61 : jm_at 205 61 = some (.imul) := rfl
theorem at205_62 : jm_at 205 62 = some (.iload_n 1) := rfl
theorem at205_63 : jm_at 205 63 = some (.iload 4) := rfl
theorem at205_65 : jm_at 205 65 = some (.invokestatic 348) := rfl
theorem u205_61 {S : Option (Nat × (Nat → Int32))} {H : jm_H} {Q : Option Value → jm_H → Prop} {r0 o0 : Nat} {x1 x2 x3 x4 x5 x8 p2 p3 p4 : Int32} {y6 q1 : Int64} : jm_w S 4 205 61 [.ref r0, .int x1, .int x2, .int x3, .int x4, .int x5, .long y6, .null, .int x8] [.int p4, .int p3, .int p2, .long q1, .ref o0] H Q = jm_c S 206 [.int x1, .int x4] H (fun v G => jm_w S 4 205 68 [.ref r0, .int x1, .int x2, .int x3, .int x4, .int x5, .long y6, .null, .int x8] (v.toList ++ [.int (p3 * p4), .int p2, .long q1, .ref o0]) G Q) := (js0 at205_61 rfl rfl rfl).trans ((js1 at205_62 rfl rfl rfl).trans ((js1 at205_63 rfl rfl rfl).trans (jscall (H := H) (as := [.int x1, .int x4]) (q := [.int (p3 * p4), .int p2, .long q1, .ref o0]) at205_65 rfl rv205i_348 (jscut rfl rfl rfl (Nat.le_of_ble_eq_true rfl)) rfl (Nat.le_of_ble_eq_true rfl) rfl rfl)))
theorem at205_68 : jm_at 205 68 = some (.imul) := rfl
theorem at205_69 : jm_at 205 69 = some (.invokevirtual 351) := rfl
theorem rv205i_351 : jm_rv 205 (.invokevirtual 351) = (2, 207, 0, 0) := rfl
theorem u205_68 {S : Option (Nat × (Nat → Int32))} {H : jm_H} {Q : Option Value → jm_H → Prop} {r0 o0 : Nat} {x1 x2 x3 x4 x5 x8 p2 p3 p4 : Int32} {y6 q1 : Int64} (h0 : jm_tg H o0 = 13) : jm_w S 4 205 68 [.ref r0, .int x1, .int x2, .int x3, .int x4, .int x5, .long y6, .null, .int x8] [.int p4, .int p3, .int p2, .long q1, .ref o0] H Q = jm_c S 207 [.ref o0, .long q1, .int p2, .int (p3 * p4)] H (fun v G => jm_w S 4 205 72 [.ref r0, .int x1, .int x2, .int x3, .int x4, .int x5, .long y6, .null, .int x8] (v.toList ++ []) G Q) := (js0 at205_68 rfl rfl rfl).trans (jscall (H := H) (as := [.ref o0, .long q1, .int p2, .int (p3 * p4)]) (q := []) at205_69 rfl rv205i_351 (jscutV rfl rfl rfl (Nat.le_of_ble_eq_true rfl) rfl h0) rfl (Nat.le_of_ble_eq_true rfl) rfl rfl)
theorem at205_72 : jm_at 205 72 = some (.return_) := rfl
theorem u205_72 {S : Option (Nat × (Nat → Int32))} {H : jm_H} {Q : Option Value → jm_H → Prop} {r0 : Nat} {x1 x2 x3 x4 x5 x8 : Int32} {y6 : Int64} : jm_w S 4 205 72 [.ref r0, .int x1, .int x2, .int x3, .int x4, .int x5, .long y6, .null, .int x8] [] H Q = Q none H := jsret_v at205_72 rfl
theorem en205 {S : Option (Nat × (Nat → Int32))} {H : jm_H} {Q : Option Value → jm_H → Prop} {r0 : Nat} {x1 x2 x3 x4 x5 : Int32} : jm_c S 205 [.ref r0, .int x1, .int x2, .int x3, .int x4, .int x5] H Q = jm_w S 4 205 0 [.ref r0, .int x1, .int x2, .int x3, .int x4, .int x5, .null, .null, .null] [] H Q := rfl
theorem at206_0 : jm_at 206 0 = some (.iload_n 1) := rfl
theorem at206_1 : jm_at 206 1 = some (.ifCond .eq 11) := rfl
theorem u206_0 {S : Option (Nat × (Nat → Int32))} {H : jm_H} {Q : Option Value → jm_H → Prop} {x0 x1 : Int32} : jm_w S 3 206 0 [.int x0, .int x1] [] H Q = if x1 = 0 then jm_w S 3 206 12 [.int x0, .int x1] [] H Q else jm_w S 3 206 4 [.int x0, .int x1] [] H Q := (js1 at206_0 rfl rfl rfl).trans (jsif (P := x1 = 0) at206_1 rfl rfl)
theorem at206_4 : jm_at 206 4 = some (.iload_n 0) := rfl
theorem at206_5 : jm_at 206 5 = some (.iload_n 1) := rfl
theorem at206_6 : jm_at 206 6 = some (.invokestatic 276) := rfl
theorem rv206i_276 : jm_rv 206 (.invokestatic 276) = (1, 204, 0, 0) := rfl
theorem u206_4 {S : Option (Nat × (Nat → Int32))} {H : jm_H} {Q : Option Value → jm_H → Prop} {x0 x1 : Int32} : jm_w S 3 206 4 [.int x0, .int x1] [] H Q = jm_c S 204 [.int x0, .int x1] H (fun v G => jm_w S 3 206 9 [.int x0, .int x1] (v.toList ++ []) G Q) := (js1 at206_4 rfl rfl rfl).trans ((js1 at206_5 rfl rfl rfl).trans (jscall (H := H) (as := [.int x0, .int x1]) (q := []) at206_6 rfl rv206i_276 (jscut rfl rfl rfl (Nat.le_of_ble_eq_true rfl)) rfl (Nat.le_of_ble_eq_true rfl) rfl rfl))
theorem at206_9 : jm_at 206 9 = some (.ifCond .eq 7) := rfl
theorem u206_9 {S : Option (Nat × (Nat → Int32))} {H : jm_H} {Q : Option Value → jm_H → Prop} {x0 x1 p0 : Int32} : jm_w S 3 206 9 [.int x0, .int x1] [.int p0] H Q = if p0 = 0 then jm_w S 3 206 16 [.int x0, .int x1] [] H Q else jm_w S 3 206 12 [.int x0, .int x1] [] H Q := jsif (P := p0 = 0) at206_9 rfl rfl
theorem at206_12 : jm_at 206 12 = some (.iconst 0) := rfl
theorem at206_13 : jm_at 206 13 = some (.goto 16) := rfl
theorem u206_12 {S : Option (Nat × (Nat → Int32))} {H : jm_H} {Q : Option Value → jm_H → Prop} {x0 x1 : Int32} : jm_w S 3 206 12 [.int x0, .int x1] [] H Q = jm_w S 3 206 29 [.int x0, .int x1] [.int (0 : Int32)] H Q := (jsci at206_12 rfl rfl).trans (js2 at206_13 rfl rfl)
theorem at206_16 : jm_at 206 16 = some (.iload_n 1) := rfl
theorem at206_17 : jm_at 206 17 = some (.iload_n 0) := rfl
theorem at206_18 : jm_at 206 18 = some (.invokestatic 280) := rfl
theorem rv206i_280 : jm_rv 206 (.invokestatic 280) = (1, 191, 0, 0) := rfl
theorem u206_16 {S : Option (Nat × (Nat → Int32))} {H : jm_H} {Q : Option Value → jm_H → Prop} {x0 x1 : Int32} : jm_w S 3 206 16 [.int x0, .int x1] [] H Q = jm_c S 191 [.int x0] H (fun v G => jm_w S 3 206 21 [.int x0, .int x1] (v.toList ++ [.int x1]) G Q) := (js1 at206_16 rfl rfl rfl).trans ((js1 at206_17 rfl rfl rfl).trans (jscall (H := H) (as := [.int x0]) (q := [.int x1]) at206_18 rfl rv206i_280 (jscut rfl rfl rfl (Nat.le_of_ble_eq_true rfl)) rfl (Nat.le_of_ble_eq_true rfl) rfl rfl))
theorem at206_21 : jm_at 206 21 = some (.if_icmp .le 7) := rfl
theorem u206_21 {S : Option (Nat × (Nat → Int32))} {H : jm_H} {Q : Option Value → jm_H → Prop} {x0 x1 p0 p1 : Int32} : jm_w S 3 206 21 [.int x0, .int x1] [.int p1, .int p0] H Q = if p0 ≤ p1 then jm_w S 3 206 28 [.int x0, .int x1] [] H Q else jm_w S 3 206 24 [.int x0, .int x1] [] H Q := jsif (P := p0 ≤ p1) at206_21 rfl rfl
theorem at206_24 : jm_at 206 24 = some (.iconst (-1)) := rfl
theorem at206_25 : jm_at 206 25 = some (.goto 4) := rfl
theorem u206_24 {S : Option (Nat × (Nat → Int32))} {H : jm_H} {Q : Option Value → jm_H → Prop} {x0 x1 : Int32} : jm_w S 3 206 24 [.int x0, .int x1] [] H Q = jm_w S 3 206 29 [.int x0, .int x1] [.int (-1 : Int32)] H Q := (jsci at206_24 rfl rfl).trans (js2 at206_25 rfl rfl)
theorem at206_28 : jm_at 206 28 = some (.iconst 1) := rfl
theorem u206_28 {S : Option (Nat × (Nat → Int32))} {H : jm_H} {Q : Option Value → jm_H → Prop} {x0 x1 : Int32} : jm_w S 3 206 28 [.int x0, .int x1] [] H Q = jm_w S 3 206 29 [.int x0, .int x1] [.int (1 : Int32)] H Q := jsci at206_28 rfl rfl
theorem at206_29 : jm_at 206 29 = some (.ireturn) := rfl
theorem u206_29 {S : Option (Nat × (Nat → Int32))} {H : jm_H} {Q : Option Value → jm_H → Prop} {x0 x1 p0 : Int32} : jm_w S 3 206 29 [.int x0, .int x1] [.int p0] H Q = Q (some (.int p0)) H := jsret_i at206_29 rfl
theorem en206 {S : Option (Nat × (Nat → Int32))} {H : jm_H} {Q : Option Value → jm_H → Prop} {x0 x1 : Int32} : jm_c S 206 [.int x0, .int x1] H Q = jm_w S 3 206 0 [.int x0, .int x1] [] H Q := rfl
theorem at207_0 : jm_at 207 0 = some (.aload_n 0) := rfl
theorem at207_1 : jm_at 207 1 = some (.getfield 95) := rfl
theorem rv207g_95 : jm_rv 207 (.getfield 95) = (0, 12, 51, 0) := rfl
theorem at207_4 : jm_at 207 4 = some (.lload_n 1) := rfl
theorem at207_5 : jm_at 207 5 = some (.iload_n 3) := rfl
theorem at207_6 : jm_at 207 6 = some (.invokestatic 336) := rfl
theorem rv207i_336 : jm_rv 207 (.invokestatic 336) = (1, 198, 0, 0) := rfl
theorem u207_0 {S : Option (Nat × (Nat → Int32))} {H : jm_H} {Q : Option Value → jm_H → Prop} {r0 : Nat} {y1 : Int64} {x3 x4 : Int32} (h0 : jm_tg H r0 = 13) (h1 : ¬ jm_R H r0 51 = 0) : jm_w S 2 207 0 [.ref r0, .long y1, .null, .int x3, .int x4, .null, .null, .null, .null] [] H Q = jm_c S 198 [.ref (jm_R H r0 51), .long y1, .int x3] H (fun v G => jm_w S 2 207 9 [.ref r0, .long y1, .null, .int x3, .int x4, .null, .null, .null, .null] (v.toList ++ []) G Q) := (js1 at207_0 rfl rfl rfl).trans ((jsgR (H := H) at207_1 rv207g_95 rfl h0 h1 rfl).trans ((js1 at207_4 rfl rfl rfl).trans ((js1 at207_5 rfl rfl rfl).trans (jscall (H := H) (as := [.ref (jm_R H r0 51), .long y1, .int x3]) (q := []) at207_6 rfl rv207i_336 (jscut rfl rfl rfl (Nat.le_of_ble_eq_true rfl)) rfl (Nat.le_of_ble_eq_true rfl) rfl rfl))))
theorem at207_9 : jm_at 207 9 = some (.aload_n 0) := rfl
theorem at207_10 : jm_at 207 10 = some (.getfield 308) := rfl
theorem rv207g_308 : jm_rv 207 (.getfield 308) = (0, 12, 52, 0) := rfl
theorem at207_13 : jm_at 207 13 = some (.ifCond .eq 12) := rfl
theorem u207_9 {S : Option (Nat × (Nat → Int32))} {H : jm_H} {Q : Option Value → jm_H → Prop} {r0 : Nat} {y1 : Int64} {x3 x4 : Int32} (h0 : jm_tg H r0 = 13) : jm_w S 2 207 9 [.ref r0, .long y1, .null, .int x3, .int x4, .null, .null, .null, .null] [] H Q = if (jm_I H r0 52) = 0 then jm_w S 2 207 25 [.ref r0, .long y1, .null, .int x3, .int x4, .null, .null, .null, .null] [] H Q else jm_w S 2 207 16 [.ref r0, .long y1, .null, .int x3, .int x4, .null, .null, .null, .null] [] H Q := (js1 at207_9 rfl rfl rfl).trans ((jsgI (H := H) at207_10 rv207g_308 (Or.inl rfl) h0 rfl).trans (jsif (P := (jm_I H r0 52) = 0) at207_13 rfl rfl))
theorem at207_16 : jm_at 207 16 = some (.aload_n 0) := rfl
theorem at207_17 : jm_at 207 17 = some (.getfield 308) := rfl
theorem at207_20 : jm_at 207 20 = some (.iload 4) := rfl
theorem at207_22 : jm_at 207 22 = some (.if_icmp .ne 69) := rfl
theorem u207_16 {S : Option (Nat × (Nat → Int32))} {H : jm_H} {Q : Option Value → jm_H → Prop} {r0 : Nat} {y1 : Int64} {x3 x4 : Int32} (h0 : jm_tg H r0 = 13) : jm_w S 2 207 16 [.ref r0, .long y1, .null, .int x3, .int x4, .null, .null, .null, .null] [] H Q = if ¬ (jm_I H r0 52) = x4 then jm_w S 2 207 91 [.ref r0, .long y1, .null, .int x3, .int x4, .null, .null, .null, .null] [] H Q else jm_w S 2 207 25 [.ref r0, .long y1, .null, .int x3, .int x4, .null, .null, .null, .null] [] H Q := (js1 at207_16 rfl rfl rfl).trans ((jsgI (H := H) at207_17 rv207g_308 (Or.inl rfl) h0 rfl).trans ((js1 at207_20 rfl rfl rfl).trans (jsif (P := ¬ (jm_I H r0 52) = x4) at207_22 rfl rfl)))
theorem at207_25 : jm_at 207 25 = some (.iconst 0) := rfl
theorem at207_26 : jm_at 207 26 = some (.istore 5) := rfl
theorem at207_28 : jm_at 207 28 = some (.iconst 0) := rfl
theorem at207_29 : jm_at 207 29 = some (.istore 6) := rfl
theorem u207_25 {S : Option (Nat × (Nat → Int32))} {H : jm_H} {Q : Option Value → jm_H → Prop} {r0 : Nat} {y1 : Int64} {x3 x4 : Int32} : jm_w S 2 207 25 [.ref r0, .long y1, .null, .int x3, .int x4, .null, .null, .null, .null] [] H Q = jm_w S 2 207 31 [.ref r0, .long y1, .null, .int x3, .int x4, .int (0 : Int32), .int (0 : Int32), .null, .null] [] H Q := (jsci at207_25 rfl rfl).trans ((js1 at207_26 rfl rfl rfl).trans ((jsci at207_28 rfl rfl).trans (js1 at207_29 rfl rfl rfl)))
theorem at207_31 : jm_at 207 31 = some (.iload 6) := rfl
theorem at207_33 : jm_at 207 33 = some (.bipush 16) := rfl
theorem at207_35 : jm_at 207 35 = some (.if_icmp .ge 49) := rfl
theorem u207_31 {S : Option (Nat × (Nat → Int32))} {H : jm_H} {Q : Option Value → jm_H → Prop} {r0 : Nat} {y1 : Int64} {x3 x4 x5 x6 : Int32} {w7 : Value} : jm_w S 2 207 31 [.ref r0, .long y1, .null, .int x3, .int x4, .int x5, .int x6, w7, .null] [] H Q = if (16 : Int32) ≤ x6 then jm_w S 2 207 84 [.ref r0, .long y1, .null, .int x3, .int x4, .int x5, .int x6, w7, .null] [] H Q else jm_w S 2 207 38 [.ref r0, .long y1, .null, .int x3, .int x4, .int x5, .int x6, w7, .null] [] H Q := (js1 at207_31 rfl rfl rfl).trans ((jscb at207_33 rfl rfl).trans (jsif (P := (16 : Int32) ≤ x6) at207_35 rfl rfl))
theorem at207_38 : jm_at 207 38 = some (.aload_n 0) := rfl
theorem at207_39 : jm_at 207 39 = some (.getfield 92) := rfl
theorem rv207g_92 : jm_rv 207 (.getfield 92) = (0, 12, 50, 0) := rfl
theorem at207_42 : jm_at 207 42 = some (.iload 6) := rfl
theorem at207_44 : jm_at 207 44 = some (.iaload) := rfl
theorem at207_45 : jm_at 207 45 = some (.aload_n 0) := rfl
theorem at207_46 : jm_at 207 46 = some (.getfield 95) := rfl
theorem at207_49 : jm_at 207 49 = some (.iload 6) := rfl
theorem at207_51 : jm_at 207 51 = some (.iaload) := rfl
theorem at207_52 : jm_at 207 52 = some (.iadd) := rfl
theorem at207_53 : jm_at 207 53 = some (.iload 5) := rfl
theorem at207_55 : jm_at 207 55 = some (.iadd) := rfl
theorem at207_56 : jm_at 207 56 = some (.istore 7) := rfl
theorem at207_58 : jm_at 207 58 = some (.aload_n 0) := rfl
theorem at207_59 : jm_at 207 59 = some (.getfield 92) := rfl
theorem at207_62 : jm_at 207 62 = some (.iload 6) := rfl
theorem at207_64 : jm_at 207 64 = some (.iload 7) := rfl
theorem at207_66 : jm_at 207 66 = some (.ldc_w 340) := rfl
theorem rv207l_340 : jm_rv 207 (.ldc_w 340) = (8, 0, 0, 65535) := rfl
theorem at207_69 : jm_at 207 69 = some (.iand) := rfl
theorem at207_70 : jm_at 207 70 = some (.iastore) := rfl
theorem at207_71 : jm_at 207 71 = some (.iload 7) := rfl
theorem at207_73 : jm_at 207 73 = some (.bipush 16) := rfl
theorem at207_75 : jm_at 207 75 = some (.ishr) := rfl
theorem at207_76 : jm_at 207 76 = some (.istore 5) := rfl
theorem at207_78 : jm_at 207 78 = some (.iinc 6 1) := rfl
theorem at207_81 : jm_at 207 81 = some (.goto (-50)) := rfl
theorem u207_38 {S : Option (Nat × (Nat → Int32))} {H : jm_H} {Q : Option Value → jm_H → Prop} {r0 : Nat} {y1 : Int64} {x3 x4 x5 x6 : Int32} {w7 : Value} (h0 : jm_tg H r0 = 13) (h1 : ¬ jm_R H r0 50 = 0) (h2 : ¬ (x6 < 0 ∨ jm_ln H (jm_R H r0 50) ≤ Int32.toNatClampNeg x6)) (h3 : ¬ (jm_R H r0 50) = 1) (h4 : jm_tg H (jm_R H r0 50) = 100) (h5 : ¬ jm_R H r0 51 = 0) (h6 : ¬ (x6 < 0 ∨ jm_ln H (jm_R H r0 51) ≤ Int32.toNatClampNeg x6)) (h7 : ¬ (jm_R H r0 51) = 1) (h8 : jm_tg H (jm_R H r0 51) = 100) : jm_w S 2 207 38 [.ref r0, .long y1, .null, .int x3, .int x4, .int x5, .int x6, w7, .null] [] H Q = jm_w S 2 207 31 [.ref r0, .long y1, .null, .int x3, .int x4, .int ((((jm_I H (jm_R H r0 50) (Int32.toNatClampNeg x6)) + (jm_I H (jm_R H r0 51) (Int32.toNatClampNeg x6))) + x5) >>> ((16 : Int32) &&& 31)), .int (x6 + 1), .int (((jm_I H (jm_R H r0 50) (Int32.toNatClampNeg x6)) + (jm_I H (jm_R H r0 51) (Int32.toNatClampNeg x6))) + x5), .null] [] (jm_pI H (jm_R H r0 50) (Int32.toNatClampNeg x6) ((((jm_I H (jm_R H r0 50) (Int32.toNatClampNeg x6)) + (jm_I H (jm_R H r0 51) (Int32.toNatClampNeg x6))) + x5) &&& (65535 : Int32))) Q := (js1 at207_38 rfl rfl rfl).trans ((jsgR (H := H) at207_39 rv207g_92 rfl h0 h1 rfl).trans ((js1 at207_42 rfl rfl rfl).trans ((jsial (H := H) at207_44 h3 h4 h2 rfl).trans ((js1 at207_45 rfl rfl rfl).trans ((jsgR (H := H) at207_46 rv207g_95 rfl h0 h5 rfl).trans ((js1 at207_49 rfl rfl rfl).trans ((jsial (H := H) at207_51 h7 h8 h6 rfl).trans ((js0 at207_52 rfl rfl rfl).trans ((js1 at207_53 rfl rfl rfl).trans ((js0 at207_55 rfl rfl rfl).trans ((js1 at207_56 rfl rfl rfl).trans ((js1 at207_58 rfl rfl rfl).trans ((jsgR (H := H) at207_59 rv207g_92 rfl h0 h1 rfl).trans ((js1 at207_62 rfl rfl rfl).trans ((js1 at207_64 rfl rfl rfl).trans ((jskw at207_66 rv207l_340 rfl rfl).trans ((js0 at207_69 rfl rfl rfl).trans ((jsias (H := H) at207_70 h4 h2 rfl).trans ((js1 at207_71 rfl rfl rfl).trans ((jscb at207_73 rfl rfl).trans ((js0 at207_75 rfl rfl rfl).trans ((js1 at207_76 rfl rfl rfl).trans ((jsinc at207_78 rfl rfl rfl).trans (js2 at207_81 rfl rfl))))))))))))))))))))))))
theorem at207_84 : jm_at 207 84 = some (.aload_n 0) := rfl
theorem at207_85 : jm_at 207 85 = some (.iload 4) := rfl
theorem at207_87 : jm_at 207 87 = some (.putfield 308) := rfl
theorem rv207p_308 : jm_rv 207 (.putfield 308) = (0, 12, 52, 0) := rfl
theorem at207_90 : jm_at 207 90 = some (.return_) := rfl
theorem u207_84 {S : Option (Nat × (Nat → Int32))} {H : jm_H} {Q : Option Value → jm_H → Prop} {r0 : Nat} {y1 : Int64} {x3 x4 x5 x6 : Int32} {w7 : Value} (h0 : jm_tg H r0 = 13) : jm_w S 2 207 84 [.ref r0, .long y1, .null, .int x3, .int x4, .int x5, .int x6, w7, .null] [] H Q = Q none (jm_pI H r0 52 x4) := (js1 at207_84 rfl rfl rfl).trans ((js1 at207_85 rfl rfl rfl).trans ((jspI (H := H) at207_87 rv207p_308 rfl h0 rfl).trans (jsret_v at207_90 rfl)))
theorem at207_91 : jm_at 207 91 = some (.aload_n 0) := rfl
theorem at207_92 : jm_at 207 92 = some (.getfield 92) := rfl
theorem at207_95 : jm_at 207 95 = some (.aload_n 0) := rfl
theorem at207_96 : jm_at 207 96 = some (.getfield 95) := rfl
theorem at207_99 : jm_at 207 99 = some (.invokestatic 341) := rfl
theorem rv207i_341 : jm_rv 207 (.invokestatic 341) = (1, 199, 0, 0) := rfl
theorem u207_91 {S : Option (Nat × (Nat → Int32))} {H : jm_H} {Q : Option Value → jm_H → Prop} {r0 : Nat} {y1 : Int64} {x3 x4 : Int32} (h0 : jm_tg H r0 = 13) (h1 : ¬ jm_R H r0 50 = 0) (h2 : ¬ jm_R H r0 51 = 0) : jm_w S 2 207 91 [.ref r0, .long y1, .null, .int x3, .int x4, .null, .null, .null, .null] [] H Q = jm_c S 199 [.ref (jm_R H r0 50), .ref (jm_R H r0 51)] H (fun v G => jm_w S 2 207 102 [.ref r0, .long y1, .null, .int x3, .int x4, .null, .null, .null, .null] (v.toList ++ []) G Q) := (js1 at207_91 rfl rfl rfl).trans ((jsgR (H := H) at207_92 rv207g_92 rfl h0 h1 rfl).trans ((js1 at207_95 rfl rfl rfl).trans ((jsgR (H := H) at207_96 rv207g_95 rfl h0 h2 rfl).trans (jscall (H := H) (as := [.ref (jm_R H r0 50), .ref (jm_R H r0 51)]) (q := []) at207_99 rfl rv207i_341 (jscut rfl rfl rfl (Nat.le_of_ble_eq_true rfl)) rfl (Nat.le_of_ble_eq_true rfl) rfl rfl))))
theorem at207_102 : jm_at 207 102 = some (.istore 5) := rfl
theorem at207_104 : jm_at 207 104 = some (.iconst 0) := rfl
theorem at207_105 : jm_at 207 105 = some (.istore 6) := rfl
theorem at207_107 : jm_at 207 107 = some (.iconst 0) := rfl
theorem at207_108 : jm_at 207 108 = some (.istore 7) := rfl
theorem u207_102 {S : Option (Nat × (Nat → Int32))} {H : jm_H} {Q : Option Value → jm_H → Prop} {r0 : Nat} {y1 : Int64} {x3 x4 p0 : Int32} : jm_w S 2 207 102 [.ref r0, .long y1, .null, .int x3, .int x4, .null, .null, .null, .null] [.int p0] H Q = jm_w S 2 207 110 [.ref r0, .long y1, .null, .int x3, .int x4, .int p0, .int (0 : Int32), .int (0 : Int32), .null] [] H Q := (js1 at207_102 rfl rfl rfl).trans ((jsci at207_104 rfl rfl).trans ((js1 at207_105 rfl rfl rfl).trans ((jsci at207_107 rfl rfl).trans (js1 at207_108 rfl rfl rfl))))
theorem at207_110 : jm_at 207 110 = some (.iload 7) := rfl
theorem at207_112 : jm_at 207 112 = some (.bipush 16) := rfl
theorem at207_114 : jm_at 207 114 = some (.if_icmp .ge 77) := rfl
theorem u207_110 {S : Option (Nat × (Nat → Int32))} {H : jm_H} {Q : Option Value → jm_H → Prop} {r0 : Nat} {y1 : Int64} {x3 x4 x5 x6 x7 : Int32} {w8 : Value} : jm_w S 2 207 110 [.ref r0, .long y1, .null, .int x3, .int x4, .int x5, .int x6, .int x7, w8] [] H Q = if (16 : Int32) ≤ x7 then jm_w S 2 207 191 [.ref r0, .long y1, .null, .int x3, .int x4, .int x5, .int x6, .int x7, w8] [] H Q else jm_w S 2 207 117 [.ref r0, .long y1, .null, .int x3, .int x4, .int x5, .int x6, .int x7, w8] [] H Q := (js1 at207_110 rfl rfl rfl).trans ((jscb at207_112 rfl rfl).trans (jsif (P := (16 : Int32) ≤ x7) at207_114 rfl rfl))
theorem at207_117 : jm_at 207 117 = some (.iload 5) := rfl
theorem at207_119 : jm_at 207 119 = some (.ifCond .ge 21) := rfl
theorem u207_117 {S : Option (Nat × (Nat → Int32))} {H : jm_H} {Q : Option Value → jm_H → Prop} {r0 : Nat} {y1 : Int64} {x3 x4 x5 x6 x7 : Int32} {w8 : Value} : jm_w S 2 207 117 [.ref r0, .long y1, .null, .int x3, .int x4, .int x5, .int x6, .int x7, w8] [] H Q = if 0 ≤ x5 then jm_w S 2 207 140 [.ref r0, .long y1, .null, .int x3, .int x4, .int x5, .int x6, .int x7, w8] [] H Q else jm_w S 2 207 122 [.ref r0, .long y1, .null, .int x3, .int x4, .int x5, .int x6, .int x7, w8] [] H Q := (js1 at207_117 rfl rfl rfl).trans (jsif (P := 0 ≤ x5) at207_119 rfl rfl)
theorem at207_122 : jm_at 207 122 = some (.aload_n 0) := rfl
theorem at207_123 : jm_at 207 123 = some (.getfield 95) := rfl
theorem at207_126 : jm_at 207 126 = some (.iload 7) := rfl
theorem at207_128 : jm_at 207 128 = some (.iaload) := rfl
theorem at207_129 : jm_at 207 129 = some (.aload_n 0) := rfl
theorem at207_130 : jm_at 207 130 = some (.getfield 92) := rfl
theorem at207_133 : jm_at 207 133 = some (.iload 7) := rfl
theorem at207_135 : jm_at 207 135 = some (.iaload) := rfl
theorem at207_136 : jm_at 207 136 = some (.isub) := rfl
theorem at207_137 : jm_at 207 137 = some (.goto 18) := rfl
theorem u207_122 {S : Option (Nat × (Nat → Int32))} {H : jm_H} {Q : Option Value → jm_H → Prop} {r0 : Nat} {y1 : Int64} {x3 x4 x5 x6 x7 : Int32} {w8 : Value} (h0 : jm_tg H r0 = 13) (h1 : ¬ jm_R H r0 51 = 0) (h2 : ¬ (x7 < 0 ∨ jm_ln H (jm_R H r0 51) ≤ Int32.toNatClampNeg x7)) (h3 : ¬ (jm_R H r0 51) = 1) (h4 : jm_tg H (jm_R H r0 51) = 100) (h5 : ¬ jm_R H r0 50 = 0) (h6 : ¬ (x7 < 0 ∨ jm_ln H (jm_R H r0 50) ≤ Int32.toNatClampNeg x7)) (h7 : ¬ (jm_R H r0 50) = 1) (h8 : jm_tg H (jm_R H r0 50) = 100) : jm_w S 2 207 122 [.ref r0, .long y1, .null, .int x3, .int x4, .int x5, .int x6, .int x7, w8] [] H Q = jm_w S 2 207 155 [.ref r0, .long y1, .null, .int x3, .int x4, .int x5, .int x6, .int x7, w8] [.int ((jm_I H (jm_R H r0 51) (Int32.toNatClampNeg x7)) - (jm_I H (jm_R H r0 50) (Int32.toNatClampNeg x7)))] H Q := (js1 at207_122 rfl rfl rfl).trans ((jsgR (H := H) at207_123 rv207g_95 rfl h0 h1 rfl).trans ((js1 at207_126 rfl rfl rfl).trans ((jsial (H := H) at207_128 h3 h4 h2 rfl).trans ((js1 at207_129 rfl rfl rfl).trans ((jsgR (H := H) at207_130 rv207g_92 rfl h0 h5 rfl).trans ((js1 at207_133 rfl rfl rfl).trans ((jsial (H := H) at207_135 h7 h8 h6 rfl).trans ((js0 at207_136 rfl rfl rfl).trans (js2 at207_137 rfl rfl)))))))))
theorem at207_140 : jm_at 207 140 = some (.aload_n 0) := rfl
theorem at207_141 : jm_at 207 141 = some (.getfield 92) := rfl
theorem at207_144 : jm_at 207 144 = some (.iload 7) := rfl
theorem at207_146 : jm_at 207 146 = some (.iaload) := rfl
theorem at207_147 : jm_at 207 147 = some (.aload_n 0) := rfl
theorem at207_148 : jm_at 207 148 = some (.getfield 95) := rfl
theorem at207_151 : jm_at 207 151 = some (.iload 7) := rfl
theorem at207_153 : jm_at 207 153 = some (.iaload) := rfl
theorem at207_154 : jm_at 207 154 = some (.isub) := rfl
theorem u207_140 {S : Option (Nat × (Nat → Int32))} {H : jm_H} {Q : Option Value → jm_H → Prop} {r0 : Nat} {y1 : Int64} {x3 x4 x5 x6 x7 : Int32} {w8 : Value} (h0 : jm_tg H r0 = 13) (h1 : ¬ jm_R H r0 50 = 0) (h2 : ¬ (x7 < 0 ∨ jm_ln H (jm_R H r0 50) ≤ Int32.toNatClampNeg x7)) (h3 : ¬ (jm_R H r0 50) = 1) (h4 : jm_tg H (jm_R H r0 50) = 100) (h5 : ¬ jm_R H r0 51 = 0) (h6 : ¬ (x7 < 0 ∨ jm_ln H (jm_R H r0 51) ≤ Int32.toNatClampNeg x7)) (h7 : ¬ (jm_R H r0 51) = 1) (h8 : jm_tg H (jm_R H r0 51) = 100) : jm_w S 2 207 140 [.ref r0, .long y1, .null, .int x3, .int x4, .int x5, .int x6, .int x7, w8] [] H Q = jm_w S 2 207 155 [.ref r0, .long y1, .null, .int x3, .int x4, .int x5, .int x6, .int x7, w8] [.int ((jm_I H (jm_R H r0 50) (Int32.toNatClampNeg x7)) - (jm_I H (jm_R H r0 51) (Int32.toNatClampNeg x7)))] H Q := (js1 at207_140 rfl rfl rfl).trans ((jsgR (H := H) at207_141 rv207g_92 rfl h0 h1 rfl).trans ((js1 at207_144 rfl rfl rfl).trans ((jsial (H := H) at207_146 h3 h4 h2 rfl).trans ((js1 at207_147 rfl rfl rfl).trans ((jsgR (H := H) at207_148 rv207g_95 rfl h0 h5 rfl).trans ((js1 at207_151 rfl rfl rfl).trans ((jsial (H := H) at207_153 h7 h8 h6 rfl).trans (js0 at207_154 rfl rfl rfl))))))))
theorem at207_155 : jm_at 207 155 = some (.iload 6) := rfl
theorem at207_157 : jm_at 207 157 = some (.isub) := rfl
theorem at207_158 : jm_at 207 158 = some (.istore 8) := rfl
theorem at207_160 : jm_at 207 160 = some (.iload 8) := rfl
theorem at207_162 : jm_at 207 162 = some (.ifCond .ge 7) := rfl
theorem u207_155 {S : Option (Nat × (Nat → Int32))} {H : jm_H} {Q : Option Value → jm_H → Prop} {r0 : Nat} {y1 : Int64} {x3 x4 x5 x6 x7 p0 : Int32} {w8 : Value} : jm_w S 2 207 155 [.ref r0, .long y1, .null, .int x3, .int x4, .int x5, .int x6, .int x7, w8] [.int p0] H Q = if 0 ≤ (p0 - x6) then jm_w S 2 207 169 [.ref r0, .long y1, .null, .int x3, .int x4, .int x5, .int x6, .int x7, .int (p0 - x6)] [] H Q else jm_w S 2 207 165 [.ref r0, .long y1, .null, .int x3, .int x4, .int x5, .int x6, .int x7, .int (p0 - x6)] [] H Q := (js1 at207_155 rfl rfl rfl).trans ((js0 at207_157 rfl rfl rfl).trans ((js1 at207_158 rfl rfl rfl).trans ((js1 at207_160 rfl rfl rfl).trans (jsif (P := 0 ≤ (p0 - x6)) at207_162 rfl rfl))))
theorem at207_165 : jm_at 207 165 = some (.iconst 1) := rfl
theorem at207_166 : jm_at 207 166 = some (.goto 4) := rfl
theorem u207_165 {S : Option (Nat × (Nat → Int32))} {H : jm_H} {Q : Option Value → jm_H → Prop} {r0 : Nat} {y1 : Int64} {x3 x4 x5 x6 x7 x8 : Int32} : jm_w S 2 207 165 [.ref r0, .long y1, .null, .int x3, .int x4, .int x5, .int x6, .int x7, .int x8] [] H Q = jm_w S 2 207 170 [.ref r0, .long y1, .null, .int x3, .int x4, .int x5, .int x6, .int x7, .int x8] [.int (1 : Int32)] H Q := (jsci at207_165 rfl rfl).trans (js2 at207_166 rfl rfl)
theorem at207_169 : jm_at 207 169 = some (.iconst 0) := rfl
theorem u207_169 {S : Option (Nat × (Nat → Int32))} {H : jm_H} {Q : Option Value → jm_H → Prop} {r0 : Nat} {y1 : Int64} {x3 x4 x5 x6 x7 x8 : Int32} : jm_w S 2 207 169 [.ref r0, .long y1, .null, .int x3, .int x4, .int x5, .int x6, .int x7, .int x8] [] H Q = jm_w S 2 207 170 [.ref r0, .long y1, .null, .int x3, .int x4, .int x5, .int x6, .int x7, .int x8] [.int (0 : Int32)] H Q := jsci at207_169 rfl rfl
theorem at207_170 : jm_at 207 170 = some (.istore 6) := rfl
theorem at207_172 : jm_at 207 172 = some (.aload_n 0) := rfl
theorem at207_173 : jm_at 207 173 = some (.getfield 92) := rfl
theorem at207_176 : jm_at 207 176 = some (.iload 7) := rfl
theorem at207_178 : jm_at 207 178 = some (.iload 8) := rfl
theorem at207_180 : jm_at 207 180 = some (.ldc_w 340) := rfl
theorem at207_183 : jm_at 207 183 = some (.iand) := rfl
theorem at207_184 : jm_at 207 184 = some (.iastore) := rfl
theorem at207_185 : jm_at 207 185 = some (.iinc 7 1) := rfl
theorem at207_188 : jm_at 207 188 = some (.goto (-78)) := rfl
theorem u207_170 {S : Option (Nat × (Nat → Int32))} {H : jm_H} {Q : Option Value → jm_H → Prop} {r0 : Nat} {y1 : Int64} {x3 x4 x5 x6 x7 x8 p0 : Int32} (h0 : jm_tg H r0 = 13) (h1 : ¬ jm_R H r0 50 = 0) (h2 : ¬ (x7 < 0 ∨ jm_ln H (jm_R H r0 50) ≤ Int32.toNatClampNeg x7)) (h3 : jm_tg H (jm_R H r0 50) = 100) : jm_w S 2 207 170 [.ref r0, .long y1, .null, .int x3, .int x4, .int x5, .int x6, .int x7, .int x8] [.int p0] H Q = jm_w S 2 207 110 [.ref r0, .long y1, .null, .int x3, .int x4, .int x5, .int p0, .int (x7 + 1), .int x8] [] (jm_pI H (jm_R H r0 50) (Int32.toNatClampNeg x7) (x8 &&& (65535 : Int32))) Q := (js1 at207_170 rfl rfl rfl).trans ((js1 at207_172 rfl rfl rfl).trans ((jsgR (H := H) at207_173 rv207g_92 rfl h0 h1 rfl).trans ((js1 at207_176 rfl rfl rfl).trans ((js1 at207_178 rfl rfl rfl).trans ((jskw at207_180 rv207l_340 rfl rfl).trans ((js0 at207_183 rfl rfl rfl).trans ((jsias (H := H) at207_184 h3 h2 rfl).trans ((jsinc at207_185 rfl rfl rfl).trans (js2 at207_188 rfl rfl)))))))))
theorem at207_191 : jm_at 207 191 = some (.aload_n 0) := rfl
theorem at207_192 : jm_at 207 192 = some (.iload 5) := rfl
theorem at207_194 : jm_at 207 194 = some (.ifCond .ne 7) := rfl
theorem u207_191 {S : Option (Nat × (Nat → Int32))} {H : jm_H} {Q : Option Value → jm_H → Prop} {r0 : Nat} {y1 : Int64} {x3 x4 x5 x6 x7 : Int32} {w8 : Value} : jm_w S 2 207 191 [.ref r0, .long y1, .null, .int x3, .int x4, .int x5, .int x6, .int x7, w8] [] H Q = if ¬ x5 = 0 then jm_w S 2 207 201 [.ref r0, .long y1, .null, .int x3, .int x4, .int x5, .int x6, .int x7, w8] [.ref r0] H Q else jm_w S 2 207 197 [.ref r0, .long y1, .null, .int x3, .int x4, .int x5, .int x6, .int x7, w8] [.ref r0] H Q := (js1 at207_191 rfl rfl rfl).trans ((js1 at207_192 rfl rfl rfl).trans (jsif (P := ¬ x5 = 0) at207_194 rfl rfl))
theorem at207_197 : jm_at 207 197 = some (.iconst 0) := rfl
theorem at207_198 : jm_at 207 198 = some (.goto 17) := rfl
theorem u207_197 {S : Option (Nat × (Nat → Int32))} {H : jm_H} {Q : Option Value → jm_H → Prop} {r0 o0 : Nat} {y1 : Int64} {x3 x4 x5 x6 x7 : Int32} {w8 : Value} : jm_w S 2 207 197 [.ref r0, .long y1, .null, .int x3, .int x4, .int x5, .int x6, .int x7, w8] [.ref o0] H Q = jm_w S 2 207 215 [.ref r0, .long y1, .null, .int x3, .int x4, .int x5, .int x6, .int x7, w8] [.int (0 : Int32), .ref o0] H Q := (jsci at207_197 rfl rfl).trans (js2 at207_198 rfl rfl)
theorem at207_201 : jm_at 207 201 = some (.iload 5) := rfl
theorem at207_203 : jm_at 207 203 = some (.ifCond .ge 8) := rfl
theorem u207_201 {S : Option (Nat × (Nat → Int32))} {H : jm_H} {Q : Option Value → jm_H → Prop} {r0 o0 : Nat} {y1 : Int64} {x3 x4 x5 x6 x7 : Int32} {w8 : Value} : jm_w S 2 207 201 [.ref r0, .long y1, .null, .int x3, .int x4, .int x5, .int x6, .int x7, w8] [.ref o0] H Q = if 0 ≤ x5 then jm_w S 2 207 211 [.ref r0, .long y1, .null, .int x3, .int x4, .int x5, .int x6, .int x7, w8] [.ref o0] H Q else jm_w S 2 207 206 [.ref r0, .long y1, .null, .int x3, .int x4, .int x5, .int x6, .int x7, w8] [.ref o0] H Q := (js1 at207_201 rfl rfl rfl).trans (jsif (P := 0 ≤ x5) at207_203 rfl rfl)
theorem at207_206 : jm_at 207 206 = some (.iload 4) := rfl
theorem at207_208 : jm_at 207 208 = some (.goto 7) := rfl
theorem u207_206 {S : Option (Nat × (Nat → Int32))} {H : jm_H} {Q : Option Value → jm_H → Prop} {r0 o0 : Nat} {y1 : Int64} {x3 x4 x5 x6 x7 : Int32} {w8 : Value} : jm_w S 2 207 206 [.ref r0, .long y1, .null, .int x3, .int x4, .int x5, .int x6, .int x7, w8] [.ref o0] H Q = jm_w S 2 207 215 [.ref r0, .long y1, .null, .int x3, .int x4, .int x5, .int x6, .int x7, w8] [.int x4, .ref o0] H Q := (js1 at207_206 rfl rfl rfl).trans (js2 at207_208 rfl rfl)
theorem at207_211 : jm_at 207 211 = some (.aload_n 0) := rfl
theorem at207_212 : jm_at 207 212 = some (.getfield 308) := rfl
theorem u207_211 {S : Option (Nat × (Nat → Int32))} {H : jm_H} {Q : Option Value → jm_H → Prop} {r0 o0 : Nat} {y1 : Int64} {x3 x4 x5 x6 x7 : Int32} {w8 : Value} (h0 : jm_tg H r0 = 13) : jm_w S 2 207 211 [.ref r0, .long y1, .null, .int x3, .int x4, .int x5, .int x6, .int x7, w8] [.ref o0] H Q = jm_w S 2 207 215 [.ref r0, .long y1, .null, .int x3, .int x4, .int x5, .int x6, .int x7, w8] [.int (jm_I H r0 52), .ref o0] H Q := (js1 at207_211 rfl rfl rfl).trans (jsgI (H := H) at207_212 rv207g_308 (Or.inl rfl) h0 rfl)
theorem at207_215 : jm_at 207 215 = some (.putfield 308) := rfl
theorem at207_218 : jm_at 207 218 = some (.return_) := rfl
theorem u207_215 {S : Option (Nat × (Nat → Int32))} {H : jm_H} {Q : Option Value → jm_H → Prop} {r0 o0 : Nat} {y1 : Int64} {x3 x4 x5 x6 x7 p1 : Int32} {w8 : Value} (h0 : jm_tg H o0 = 13) : jm_w S 2 207 215 [.ref r0, .long y1, .null, .int x3, .int x4, .int x5, .int x6, .int x7, w8] [.int p1, .ref o0] H Q = Q none (jm_pI H o0 52 p1) := (jspI (H := H) at207_215 rv207p_308 rfl h0 rfl).trans (jsret_v at207_218 rfl)
theorem en207 {S : Option (Nat × (Nat → Int32))} {H : jm_H} {Q : Option Value → jm_H → Prop} {r0 : Nat} {y1 : Int64} {x3 x4 : Int32} : jm_c S 207 [.ref r0, .long y1, .int x3, .int x4] H Q = jm_w S 2 207 0 [.ref r0, .long y1, .null, .int x3, .int x4, .null, .null, .null, .null] [] H Q := rfl
theorem at208_0 : jm_at 208 0 = some (.aload_n 0) := rfl
theorem at208_1 : jm_at 208 1 = some (.iconst 0) := rfl
theorem at208_2 : jm_at 208 2 = some (.putfield 380) := rfl
theorem rv208p_380 : jm_rv 208 (.putfield 380) = (0, 12, 58, 0) := rfl
theorem at208_5 : jm_at 208 5 = some (.aload_n 0) := rfl
theorem at208_6 : jm_at 208 6 = some (.getfield 308) := rfl
theorem rv208g_308 : jm_rv 208 (.getfield 308) = (0, 12, 52, 0) := rfl
theorem at208_9 : jm_at 208 9 = some (.ifCond .ne 5) := rfl
theorem u208_0 {S : Option (Nat × (Nat → Int32))} {H : jm_H} {Q : Option Value → jm_H → Prop} {r0 : Nat} {x1 x2 : Int32} (h0 : jm_tg H r0 = 13) : jm_w S 5 208 0 [.ref r0, .int x1, .int x2] [] H Q = if ¬ (jm_I (jm_pI H r0 58 (0 : Int32)) r0 52) = 0 then jm_w S 5 208 14 [.ref r0, .int x1, .int x2] [] (jm_pI H r0 58 (0 : Int32)) Q else jm_w S 5 208 12 [.ref r0, .int x1, .int x2] [] (jm_pI H r0 58 (0 : Int32)) Q := (js1 at208_0 rfl rfl rfl).trans ((jsci at208_1 rfl rfl).trans ((jspI (H := H) at208_2 rv208p_380 rfl h0 rfl).trans ((js1 at208_5 rfl rfl rfl).trans ((jsgI (H := (jm_pI H r0 58 (0 : Int32))) at208_6 rv208g_308 (Or.inl rfl) h0 rfl).trans (jsif (P := ¬ (jm_I (jm_pI H r0 58 (0 : Int32)) r0 52) = 0) at208_9 rfl rfl)))))
theorem at208_12 : jm_at 208 12 = some (.iconst 0) := rfl
theorem at208_13 : jm_at 208 13 = some (.ireturn) := rfl
theorem u208_12 {S : Option (Nat × (Nat → Int32))} {H : jm_H} {Q : Option Value → jm_H → Prop} {r0 : Nat} {x1 x2 : Int32} : jm_w S 5 208 12 [.ref r0, .int x1, .int x2] [] H Q = Q (some (.int (0 : Int32))) H := (jsci at208_12 rfl rfl).trans (jsret_i at208_13 rfl)
theorem at208_14 : jm_at 208 14 = some (.aload_n 0) := rfl
theorem at208_15 : jm_at 208 15 = some (.iconst 0) := rfl
theorem at208_16 : jm_at 208 16 = some (.putfield 358) := rfl
theorem rv208p_358 : jm_rv 208 (.putfield 358) = (0, 12, 53, 0) := rfl
theorem at208_19 : jm_at 208 19 = some (.aload_n 0) := rfl
theorem at208_20 : jm_at 208 20 = some (.iload_n 1) := rfl
theorem at208_21 : jm_at 208 21 = some (.aload_n 0) := rfl
theorem at208_22 : jm_at 208 22 = some (.iload_n 1) := rfl
theorem at208_23 : jm_at 208 23 = some (.iload_n 2) := rfl
theorem at208_24 : jm_at 208 24 = some (.invokevirtual 383) := rfl
theorem rv208i_383 : jm_rv 208 (.invokevirtual 383) = (2, 190, 0, 0) := rfl
theorem u208_14 {S : Option (Nat × (Nat → Int32))} {H : jm_H} {Q : Option Value → jm_H → Prop} {r0 : Nat} {x1 x2 : Int32} (h0 : jm_tg H r0 = 13) : jm_w S 5 208 14 [.ref r0, .int x1, .int x2] [] H Q = jm_c S 190 [.ref r0, .int x1, .int x2] (jm_pI H r0 53 (0 : Int32)) (fun v G => jm_w S 5 208 27 [.ref r0, .int x1, .int x2] (v.toList ++ [.int x1, .ref r0]) G Q) := (js1 at208_14 rfl rfl rfl).trans ((jsci at208_15 rfl rfl).trans ((jspI (H := H) at208_16 rv208p_358 rfl h0 rfl).trans ((js1 at208_19 rfl rfl rfl).trans ((js1 at208_20 rfl rfl rfl).trans ((js1 at208_21 rfl rfl rfl).trans ((js1 at208_22 rfl rfl rfl).trans ((js1 at208_23 rfl rfl rfl).trans (jscall (H := (jm_pI H r0 53 (0 : Int32))) (as := [.ref r0, .int x1, .int x2]) (q := [.int x1, .ref r0]) at208_24 rfl rv208i_383 (jscutV rfl rfl rfl (Nat.le_of_ble_eq_true rfl) rfl h0) rfl (Nat.le_of_ble_eq_true rfl) rfl rfl))))))))
theorem at208_27 : jm_at 208 27 = some (.aload_n 0) := rfl
theorem at208_28 : jm_at 208 28 = some (.getfield 308) := rfl
theorem at208_31 : jm_at 208 31 = some (.invokevirtual 386) := rfl
theorem rv208i_386 : jm_rv 208 (.invokevirtual 386) = (2, 200, 0, 0) := rfl
theorem u208_27 {S : Option (Nat × (Nat → Int32))} {H : jm_H} {Q : Option Value → jm_H → Prop} {r0 o0 : Nat} {x1 x2 p1 p2 : Int32} (h0 : jm_tg H r0 = 13) (h1 : jm_tg H o0 = 13) : jm_w S 5 208 27 [.ref r0, .int x1, .int x2] [.int p2, .int p1, .ref o0] H Q = jm_c S 200 [.ref o0, .int p1, .int p2, .int (jm_I H r0 52)] H (fun v G => jm_w S 5 208 34 [.ref r0, .int x1, .int x2] (v.toList ++ []) G Q) := (js1 at208_27 rfl rfl rfl).trans ((jsgI (H := H) at208_28 rv208g_308 (Or.inl rfl) h0 rfl).trans (jscall (H := H) (as := [.ref o0, .int p1, .int p2, .int (jm_I H r0 52)]) (q := []) at208_31 rfl rv208i_386 (jscutV rfl rfl rfl (Nat.le_of_ble_eq_true rfl) rfl h1) rfl (Nat.le_of_ble_eq_true rfl) rfl rfl))
theorem at208_34 : jm_at 208 34 = some (.ireturn) := rfl
theorem u208_34 {S : Option (Nat × (Nat → Int32))} {H : jm_H} {Q : Option Value → jm_H → Prop} {r0 : Nat} {x1 x2 p0 : Int32} : jm_w S 5 208 34 [.ref r0, .int x1, .int x2] [.int p0] H Q = Q (some (.int p0)) H := jsret_i at208_34 rfl
theorem en208 {S : Option (Nat × (Nat → Int32))} {H : jm_H} {Q : Option Value → jm_H → Prop} {r0 : Nat} {x1 x2 : Int32} : jm_c S 208 [.ref r0, .int x1, .int x2] H Q = jm_w S 5 208 0 [.ref r0, .int x1, .int x2] [] H Q := rfl
theorem at209_0 : jm_at 209 0 = some (.iload_n 1) := rfl
theorem at209_1 : jm_at 209 1 = some (.iload_n 3) := rfl
theorem at209_2 : jm_at 209 2 = some (.invokestatic 276) := rfl
theorem rv209i_276 : jm_rv 209 (.invokestatic 276) = (1, 204, 0, 0) := rfl
theorem u209_0 {S : Option (Nat × (Nat → Int32))} {H : jm_H} {Q : Option Value → jm_H → Prop} {r0 : Nat} {x1 x2 x3 x4 x5 : Int32} : jm_w S 6 209 0 [.ref r0, .int x1, .int x2, .int x3, .int x4, .int x5, .null, .null, .null, .null] [] H Q = jm_c S 204 [.int x1, .int x3] H (fun v G => jm_w S 6 209 5 [.ref r0, .int x1, .int x2, .int x3, .int x4, .int x5, .null, .null, .null, .null] (v.toList ++ []) G Q) := (js1 at209_0 rfl rfl rfl).trans ((js1 at209_1 rfl rfl rfl).trans (jscall (H := H) (as := [.int x1, .int x3]) (q := []) at209_2 rfl rv209i_276 (jscut rfl rfl rfl (Nat.le_of_ble_eq_true rfl)) rfl (Nat.le_of_ble_eq_true rfl) rfl rfl))
theorem at209_5 : jm_at 209 5 = some (.ifCond .ne 23) := rfl
theorem u209_5 {S : Option (Nat × (Nat → Int32))} {H : jm_H} {Q : Option Value → jm_H → Prop} {r0 : Nat} {x1 x2 x3 x4 x5 p0 : Int32} : jm_w S 6 209 5 [.ref r0, .int x1, .int x2, .int x3, .int x4, .int x5, .null, .null, .null, .null] [.int p0] H Q = if ¬ p0 = 0 then jm_w S 6 209 28 [.ref r0, .int x1, .int x2, .int x3, .int x4, .int x5, .null, .null, .null, .null] [] H Q else jm_w S 6 209 8 [.ref r0, .int x1, .int x2, .int x3, .int x4, .int x5, .null, .null, .null, .null] [] H Q := jsif (P := ¬ p0 = 0) at209_5 rfl rfl
theorem at209_8 : jm_at 209 8 = some (.iload_n 1) := rfl
theorem at209_9 : jm_at 209 9 = some (.iload 4) := rfl
theorem at209_11 : jm_at 209 11 = some (.invokestatic 276) := rfl
theorem u209_8 {S : Option (Nat × (Nat → Int32))} {H : jm_H} {Q : Option Value → jm_H → Prop} {r0 : Nat} {x1 x2 x3 x4 x5 : Int32} : jm_w S 6 209 8 [.ref r0, .int x1, .int x2, .int x3, .int x4, .int x5, .null, .null, .null, .null] [] H Q = jm_c S 204 [.int x1, .int x4] H (fun v G => jm_w S 6 209 14 [.ref r0, .int x1, .int x2, .int x3, .int x4, .int x5, .null, .null, .null, .null] (v.toList ++ []) G Q) := (js1 at209_8 rfl rfl rfl).trans ((js1 at209_9 rfl rfl rfl).trans (jscall (H := H) (as := [.int x1, .int x4]) (q := []) at209_11 rfl rv209i_276 (jscut rfl rfl rfl (Nat.le_of_ble_eq_true rfl)) rfl (Nat.le_of_ble_eq_true rfl) rfl rfl))
theorem at209_14 : jm_at 209 14 = some (.ifCond .ne 14) := rfl
theorem u209_14 {S : Option (Nat × (Nat → Int32))} {H : jm_H} {Q : Option Value → jm_H → Prop} {r0 : Nat} {x1 x2 x3 x4 x5 p0 : Int32} : jm_w S 6 209 14 [.ref r0, .int x1, .int x2, .int x3, .int x4, .int x5, .null, .null, .null, .null] [.int p0] H Q = if ¬ p0 = 0 then jm_w S 6 209 28 [.ref r0, .int x1, .int x2, .int x3, .int x4, .int x5, .null, .null, .null, .null] [] H Q else jm_w S 6 209 17 [.ref r0, .int x1, .int x2, .int x3, .int x4, .int x5, .null, .null, .null, .null] [] H Q := jsif (P := ¬ p0 = 0) at209_14 rfl rfl
theorem at209_17 : jm_at 209 17 = some (.iload 5) := rfl
theorem at209_19 : jm_at 209 19 = some (.iconst 3) := rfl
theorem at209_20 : jm_at 209 20 = some (.if_icmp .ne 13) := rfl
theorem u209_17 {S : Option (Nat × (Nat → Int32))} {H : jm_H} {Q : Option Value → jm_H → Prop} {r0 : Nat} {x1 x2 x3 x4 x5 : Int32} : jm_w S 6 209 17 [.ref r0, .int x1, .int x2, .int x3, .int x4, .int x5, .null, .null, .null, .null] [] H Q = if ¬ x5 = (3 : Int32) then jm_w S 6 209 33 [.ref r0, .int x1, .int x2, .int x3, .int x4, .int x5, .null, .null, .null, .null] [] H Q else jm_w S 6 209 23 [.ref r0, .int x1, .int x2, .int x3, .int x4, .int x5, .null, .null, .null, .null] [] H Q := (js1 at209_17 rfl rfl rfl).trans ((jsci at209_19 rfl rfl).trans (jsif (P := ¬ x5 = (3 : Int32)) at209_20 rfl rfl))
theorem at209_23 : jm_at 209 23 = some (.iload 4) := rfl
theorem at209_25 : jm_at 209 25 = some (.ifCond .ne 8) := rfl
theorem u209_23 {S : Option (Nat × (Nat → Int32))} {H : jm_H} {Q : Option Value → jm_H → Prop} {r0 : Nat} {x1 x2 x3 x4 x5 : Int32} : jm_w S 6 209 23 [.ref r0, .int x1, .int x2, .int x3, .int x4, .int x5, .null, .null, .null, .null] [] H Q = if ¬ x4 = 0 then jm_w S 6 209 33 [.ref r0, .int x1, .int x2, .int x3, .int x4, .int x5, .null, .null, .null, .null] [] H Q else jm_w S 6 209 28 [.ref r0, .int x1, .int x2, .int x3, .int x4, .int x5, .null, .null, .null, .null] [] H Q := (js1 at209_23 rfl rfl rfl).trans (jsif (P := ¬ x4 = 0) at209_25 rfl rfl)
theorem at209_28 : jm_at 209 28 = some (.iload_n 1) := rfl
theorem at209_29 : jm_at 209 29 = some (.invokestatic 280) := rfl
theorem rv209i_280 : jm_rv 209 (.invokestatic 280) = (1, 191, 0, 0) := rfl
theorem u209_28 {S : Option (Nat × (Nat → Int32))} {H : jm_H} {Q : Option Value → jm_H → Prop} {r0 : Nat} {x1 x2 x3 x4 x5 : Int32} : jm_w S 6 209 28 [.ref r0, .int x1, .int x2, .int x3, .int x4, .int x5, .null, .null, .null, .null] [] H Q = jm_c S 191 [.int x1] H (fun v G => jm_w S 6 209 32 [.ref r0, .int x1, .int x2, .int x3, .int x4, .int x5, .null, .null, .null, .null] (v.toList ++ []) G Q) := (js1 at209_28 rfl rfl rfl).trans (jscall (H := H) (as := [.int x1]) (q := []) at209_29 rfl rv209i_280 (jscut rfl rfl rfl (Nat.le_of_ble_eq_true rfl)) rfl (Nat.le_of_ble_eq_true rfl) rfl rfl)
theorem at209_32 : jm_at 209 32 = some (.ireturn) := rfl
theorem u209_32 {S : Option (Nat × (Nat → Int32))} {H : jm_H} {Q : Option Value → jm_H → Prop} {r0 : Nat} {x1 x2 x3 x4 x5 p0 : Int32} : jm_w S 6 209 32 [.ref r0, .int x1, .int x2, .int x3, .int x4, .int x5, .null, .null, .null, .null] [.int p0] H Q = Q (some (.int p0)) H := jsret_i at209_32 rfl
theorem at209_33 : jm_at 209 33 = some (.iload 5) := rfl
theorem at209_35 : jm_at 209 35 = some (.iconst 2) := rfl
theorem at209_36 : jm_at 209 36 = some (.if_icmp .ge 40) := rfl
theorem u209_33 {S : Option (Nat × (Nat → Int32))} {H : jm_H} {Q : Option Value → jm_H → Prop} {r0 : Nat} {x1 x2 x3 x4 x5 : Int32} : jm_w S 6 209 33 [.ref r0, .int x1, .int x2, .int x3, .int x4, .int x5, .null, .null, .null, .null] [] H Q = if (2 : Int32) ≤ x5 then jm_w S 6 209 76 [.ref r0, .int x1, .int x2, .int x3, .int x4, .int x5, .null, .null, .null, .null] [] H Q else jm_w S 6 209 39 [.ref r0, .int x1, .int x2, .int x3, .int x4, .int x5, .null, .null, .null, .null] [] H Q := (js1 at209_33 rfl rfl rfl).trans ((jsci at209_35 rfl rfl).trans (jsif (P := (2 : Int32) ≤ x5) at209_36 rfl rfl))
theorem at209_39 : jm_at 209 39 = some (.aload_n 0) := rfl
theorem at209_40 : jm_at 209 40 = some (.invokevirtual 273) := rfl
theorem rv209i_273 : jm_rv 209 (.invokevirtual 273) = (2, 203, 0, 0) := rfl
theorem u209_39 {S : Option (Nat × (Nat → Int32))} {H : jm_H} {Q : Option Value → jm_H → Prop} {r0 : Nat} {x1 x2 x3 x4 x5 : Int32} (h0 : jm_tg H r0 = 13) : jm_w S 6 209 39 [.ref r0, .int x1, .int x2, .int x3, .int x4, .int x5, .null, .null, .null, .null] [] H Q = jm_c S 203 [.ref r0] H (fun v G => jm_w S 6 209 43 [.ref r0, .int x1, .int x2, .int x3, .int x4, .int x5, .null, .null, .null, .null] (v.toList ++ []) G Q) := (js1 at209_39 rfl rfl rfl).trans (jscall (H := H) (as := [.ref r0]) (q := []) at209_40 rfl rv209i_273 (jscutV rfl rfl rfl (Nat.le_of_ble_eq_true rfl) rfl h0) rfl (Nat.le_of_ble_eq_true rfl) rfl rfl)
theorem at209_43 : jm_at 209 43 = some (.aload_n 0) := rfl
theorem at209_44 : jm_at 209 44 = some (.iload_n 1) := rfl
theorem at209_45 : jm_at 209 45 = some (.iload_n 2) := rfl
theorem at209_46 : jm_at 209 46 = some (.iload_n 3) := rfl
theorem at209_47 : jm_at 209 47 = some (.iconst 1) := rfl
theorem at209_48 : jm_at 209 48 = some (.invokevirtual 393) := rfl
theorem rv209i_393 : jm_rv 209 (.invokevirtual 393) = (2, 210, 0, 0) := rfl
theorem u209_43 {S : Option (Nat × (Nat → Int32))} {H : jm_H} {Q : Option Value → jm_H → Prop} {r0 : Nat} {x1 x2 x3 x4 x5 : Int32} (h0 : jm_tg H r0 = 13) : jm_w S 6 209 43 [.ref r0, .int x1, .int x2, .int x3, .int x4, .int x5, .null, .null, .null, .null] [] H Q = jm_c S 210 [.ref r0, .int x1, .int x2, .int x3, .int (1 : Int32)] H (fun v G => jm_w S 6 209 51 [.ref r0, .int x1, .int x2, .int x3, .int x4, .int x5, .null, .null, .null, .null] (v.toList ++ []) G Q) := (js1 at209_43 rfl rfl rfl).trans ((js1 at209_44 rfl rfl rfl).trans ((js1 at209_45 rfl rfl rfl).trans ((js1 at209_46 rfl rfl rfl).trans ((jsci at209_47 rfl rfl).trans (jscall (H := H) (as := [.ref r0, .int x1, .int x2, .int x3, .int (1 : Int32)]) (q := []) at209_48 rfl rv209i_393 (jscutV rfl rfl rfl (Nat.le_of_ble_eq_true rfl) rfl h0) rfl (Nat.le_of_ble_eq_true rfl) rfl rfl)))))
theorem at209_51 : jm_at 209 51 = some (.aload_n 0) := rfl
theorem at209_52 : jm_at 209 52 = some (.iload_n 1) := rfl
theorem at209_53 : jm_at 209 53 = some (.iload_n 2) := rfl
theorem at209_54 : jm_at 209 54 = some (.iload 4) := rfl
theorem at209_56 : jm_at 209 56 = some (.iload 5) := rfl
theorem at209_58 : jm_at 209 58 = some (.ifCond .ne 7) := rfl
theorem u209_51 {S : Option (Nat × (Nat → Int32))} {H : jm_H} {Q : Option Value → jm_H → Prop} {r0 : Nat} {x1 x2 x3 x4 x5 : Int32} : jm_w S 6 209 51 [.ref r0, .int x1, .int x2, .int x3, .int x4, .int x5, .null, .null, .null, .null] [] H Q = if ¬ x5 = 0 then jm_w S 6 209 65 [.ref r0, .int x1, .int x2, .int x3, .int x4, .int x5, .null, .null, .null, .null] [.int x4, .int x2, .int x1, .ref r0] H Q else jm_w S 6 209 61 [.ref r0, .int x1, .int x2, .int x3, .int x4, .int x5, .null, .null, .null, .null] [.int x4, .int x2, .int x1, .ref r0] H Q := (js1 at209_51 rfl rfl rfl).trans ((js1 at209_52 rfl rfl rfl).trans ((js1 at209_53 rfl rfl rfl).trans ((js1 at209_54 rfl rfl rfl).trans ((js1 at209_56 rfl rfl rfl).trans (jsif (P := ¬ x5 = 0) at209_58 rfl rfl)))))
theorem at209_61 : jm_at 209 61 = some (.iconst 1) := rfl
theorem at209_62 : jm_at 209 62 = some (.goto 4) := rfl
theorem u209_61 {S : Option (Nat × (Nat → Int32))} {H : jm_H} {Q : Option Value → jm_H → Prop} {r0 o0 : Nat} {x1 x2 x3 x4 x5 p1 p2 p3 : Int32} : jm_w S 6 209 61 [.ref r0, .int x1, .int x2, .int x3, .int x4, .int x5, .null, .null, .null, .null] [.int p3, .int p2, .int p1, .ref o0] H Q = jm_w S 6 209 66 [.ref r0, .int x1, .int x2, .int x3, .int x4, .int x5, .null, .null, .null, .null] [.int (1 : Int32), .int p3, .int p2, .int p1, .ref o0] H Q := (jsci at209_61 rfl rfl).trans (js2 at209_62 rfl rfl)
theorem at209_65 : jm_at 209 65 = some (.iconst (-1)) := rfl
theorem u209_65 {S : Option (Nat × (Nat → Int32))} {H : jm_H} {Q : Option Value → jm_H → Prop} {r0 o0 : Nat} {x1 x2 x3 x4 x5 p1 p2 p3 : Int32} : jm_w S 6 209 65 [.ref r0, .int x1, .int x2, .int x3, .int x4, .int x5, .null, .null, .null, .null] [.int p3, .int p2, .int p1, .ref o0] H Q = jm_w S 6 209 66 [.ref r0, .int x1, .int x2, .int x3, .int x4, .int x5, .null, .null, .null, .null] [.int (-1 : Int32), .int p3, .int p2, .int p1, .ref o0] H Q := jsci at209_65 rfl rfl
theorem at209_66 : jm_at 209 66 = some (.invokevirtual 393) := rfl
theorem u209_66 {S : Option (Nat × (Nat → Int32))} {H : jm_H} {Q : Option Value → jm_H → Prop} {r0 o0 : Nat} {x1 x2 x3 x4 x5 p1 p2 p3 p4 : Int32} (h0 : jm_tg H o0 = 13) : jm_w S 6 209 66 [.ref r0, .int x1, .int x2, .int x3, .int x4, .int x5, .null, .null, .null, .null] [.int p4, .int p3, .int p2, .int p1, .ref o0] H Q = jm_c S 210 [.ref o0, .int p1, .int p2, .int p3, .int p4] H (fun v G => jm_w S 6 209 69 [.ref r0, .int x1, .int x2, .int x3, .int x4, .int x5, .null, .null, .null, .null] (v.toList ++ []) G Q) := jscall (H := H) (as := [.ref o0, .int p1, .int p2, .int p3, .int p4]) (q := []) at209_66 rfl rv209i_393 (jscutV rfl rfl rfl (Nat.le_of_ble_eq_true rfl) rfl h0) rfl (Nat.le_of_ble_eq_true rfl) rfl rfl
theorem at209_69 : jm_at 209 69 = some (.aload_n 0) := rfl
theorem at209_70 : jm_at 209 70 = some (.iload_n 1) := rfl
theorem at209_71 : jm_at 209 71 = some (.iload_n 2) := rfl
theorem at209_72 : jm_at 209 72 = some (.invokevirtual 287) := rfl
theorem rv209i_287 : jm_rv 209 (.invokevirtual 287) = (2, 208, 0, 0) := rfl
theorem u209_69 {S : Option (Nat × (Nat → Int32))} {H : jm_H} {Q : Option Value → jm_H → Prop} {r0 : Nat} {x1 x2 x3 x4 x5 : Int32} (h0 : jm_tg H r0 = 13) : jm_w S 6 209 69 [.ref r0, .int x1, .int x2, .int x3, .int x4, .int x5, .null, .null, .null, .null] [] H Q = jm_c S 208 [.ref r0, .int x1, .int x2] H (fun v G => jm_w S 6 209 75 [.ref r0, .int x1, .int x2, .int x3, .int x4, .int x5, .null, .null, .null, .null] (v.toList ++ []) G Q) := (js1 at209_69 rfl rfl rfl).trans ((js1 at209_70 rfl rfl rfl).trans ((js1 at209_71 rfl rfl rfl).trans (jscall (H := H) (as := [.ref r0, .int x1, .int x2]) (q := []) at209_72 rfl rv209i_287 (jscutV rfl rfl rfl (Nat.le_of_ble_eq_true rfl) rfl h0) rfl (Nat.le_of_ble_eq_true rfl) rfl rfl)))
theorem at209_75 : jm_at 209 75 = some (.ireturn) := rfl
theorem u209_75 {S : Option (Nat × (Nat → Int32))} {H : jm_H} {Q : Option Value → jm_H → Prop} {r0 : Nat} {x1 x2 x3 x4 x5 p0 : Int32} : jm_w S 6 209 75 [.ref r0, .int x1, .int x2, .int x3, .int x4, .int x5, .null, .null, .null, .null] [.int p0] H Q = Q (some (.int p0)) H := jsret_i at209_75 rfl
theorem at209_76 : jm_at 209 76 = some (.aload_n 0) := rfl
theorem at209_77 : jm_at 209 77 = some (.iconst 0) := rfl
theorem at209_78 : jm_at 209 78 = some (.putfield 380) := rfl
theorem rv209p_380 : jm_rv 209 (.putfield 380) = (0, 12, 58, 0) := rfl
theorem at209_81 : jm_at 209 81 = some (.iload_n 3) := rfl
theorem at209_82 : jm_at 209 82 = some (.ifCond .eq 8) := rfl
theorem u209_76 {S : Option (Nat × (Nat → Int32))} {H : jm_H} {Q : Option Value → jm_H → Prop} {r0 : Nat} {x1 x2 x3 x4 x5 : Int32} (h0 : jm_tg H r0 = 13) : jm_w S 6 209 76 [.ref r0, .int x1, .int x2, .int x3, .int x4, .int x5, .null, .null, .null, .null] [] H Q = if x3 = 0 then jm_w S 6 209 90 [.ref r0, .int x1, .int x2, .int x3, .int x4, .int x5, .null, .null, .null, .null] [] (jm_pI H r0 58 (0 : Int32)) Q else jm_w S 6 209 85 [.ref r0, .int x1, .int x2, .int x3, .int x4, .int x5, .null, .null, .null, .null] [] (jm_pI H r0 58 (0 : Int32)) Q := (js1 at209_76 rfl rfl rfl).trans ((jsci at209_77 rfl rfl).trans ((jspI (H := H) at209_78 rv209p_380 rfl h0 rfl).trans ((js1 at209_81 rfl rfl rfl).trans (jsif (P := x3 = 0) at209_82 rfl rfl))))
theorem at209_85 : jm_at 209 85 = some (.iload 4) := rfl
theorem at209_87 : jm_at 209 87 = some (.ifCond .ne 5) := rfl
theorem u209_85 {S : Option (Nat × (Nat → Int32))} {H : jm_H} {Q : Option Value → jm_H → Prop} {r0 : Nat} {x1 x2 x3 x4 x5 : Int32} : jm_w S 6 209 85 [.ref r0, .int x1, .int x2, .int x3, .int x4, .int x5, .null, .null, .null, .null] [] H Q = if ¬ x4 = 0 then jm_w S 6 209 92 [.ref r0, .int x1, .int x2, .int x3, .int x4, .int x5, .null, .null, .null, .null] [] H Q else jm_w S 6 209 90 [.ref r0, .int x1, .int x2, .int x3, .int x4, .int x5, .null, .null, .null, .null] [] H Q := (js1 at209_85 rfl rfl rfl).trans (jsif (P := ¬ x4 = 0) at209_87 rfl rfl)
theorem at209_90 : jm_at 209 90 = some (.iconst 0) := rfl
theorem at209_91 : jm_at 209 91 = some (.ireturn) := rfl
theorem u209_90 {S : Option (Nat × (Nat → Int32))} {H : jm_H} {Q : Option Value → jm_H → Prop} {r0 : Nat} {x1 x2 x3 x4 x5 : Int32} : jm_w S 6 209 90 [.ref r0, .int x1, .int x2, .int x3, .int x4, .int x5, .null, .null, .null, .null] [] H Q = Q (some (.int (0 : Int32))) H := (jsci at209_90 rfl rfl).trans (jsret_i at209_91 rfl)
theorem at209_92 : jm_at 209 92 = some (.iload_n 1) := rfl
theorem at209_93 : jm_at 209 93 = some (.iload_n 3) := rfl
theorem at209_94 : jm_at 209 94 = some (.invokestatic 348) := rfl
theorem rv209i_348 : jm_rv 209 (.invokestatic 348) = (1, 206, 0, 0) := rfl
theorem u209_92 {S : Option (Nat × (Nat → Int32))} {H : jm_H} {Q : Option Value → jm_H → Prop} {r0 : Nat} {x1 x2 x3 x4 x5 : Int32} : jm_w S 6 209 92 [.ref r0, .int x1, .int x2, .int x3, .int x4, .int x5, .null, .null, .null, .null] [] H Q = jm_c S 206 [.int x1, .int x3] H (fun v G => jm_w S 6 209 97 [.ref r0, .int x1, .int x2, .int x3, .int x4, .int x5, .null, .null, .null, .null] (v.toList ++ []) G Q) := (js1 at209_92 rfl rfl rfl).trans ((js1 at209_93 rfl rfl rfl).trans (jscall (H := H) (as := [.int x1, .int x3]) (q := []) at209_94 rfl rv209i_348 (jscut rfl rfl rfl (Nat.le_of_ble_eq_true rfl)) rfl (Nat.le_of_ble_eq_true rfl) rfl rfl))
theorem at209_97 : jm_at 209 97 = some (.iload_n 1) := rfl
theorem at209_98 : jm_at 209 98 = some (.iload 4) := rfl
theorem at209_100 : jm_at 209 100 = some (.invokestatic 348) := rfl
theorem u209_97 {S : Option (Nat × (Nat → Int32))} {H : jm_H} {Q : Option Value → jm_H → Prop} {r0 : Nat} {x1 x2 x3 x4 x5 p0 : Int32} : jm_w S 6 209 97 [.ref r0, .int x1, .int x2, .int x3, .int x4, .int x5, .null, .null, .null, .null] [.int p0] H Q = jm_c S 206 [.int x1, .int x4] H (fun v G => jm_w S 6 209 103 [.ref r0, .int x1, .int x2, .int x3, .int x4, .int x5, .null, .null, .null, .null] (v.toList ++ [.int p0]) G Q) := (js1 at209_97 rfl rfl rfl).trans ((js1 at209_98 rfl rfl rfl).trans (jscall (H := H) (as := [.int x1, .int x4]) (q := [.int p0]) at209_100 rfl rv209i_348 (jscut rfl rfl rfl (Nat.le_of_ble_eq_true rfl)) rfl (Nat.le_of_ble_eq_true rfl) rfl rfl))
theorem at209_103 : jm_at 209 103 = some (.imul) := rfl
theorem at209_104 : jm_at 209 104 = some (.istore 6) := rfl
theorem at209_106 : jm_at 209 106 = some (.aload_n 0) := rfl
theorem at209_107 : jm_at 209 107 = some (.iload_n 1) := rfl
theorem at209_108 : jm_at 209 108 = some (.iload_n 2) := rfl
theorem at209_109 : jm_at 209 109 = some (.iload_n 3) := rfl
theorem at209_110 : jm_at 209 110 = some (.invokevirtual 345) := rfl
theorem rv209i_345 : jm_rv 209 (.invokevirtual 345) = (2, 193, 0, 0) := rfl
theorem u209_103 {S : Option (Nat × (Nat → Int32))} {H : jm_H} {Q : Option Value → jm_H → Prop} {r0 : Nat} {x1 x2 x3 x4 x5 p0 p1 : Int32} (h0 : jm_tg H r0 = 13) : jm_w S 6 209 103 [.ref r0, .int x1, .int x2, .int x3, .int x4, .int x5, .null, .null, .null, .null] [.int p1, .int p0] H Q = jm_c S 193 [.ref r0, .int x1, .int x2, .int x3] H (fun v G => jm_w S 6 209 113 [.ref r0, .int x1, .int x2, .int x3, .int x4, .int x5, .int (p0 * p1), .null, .null, .null] (v.toList ++ []) G Q) := (js0 at209_103 rfl rfl rfl).trans ((js1 at209_104 rfl rfl rfl).trans ((js1 at209_106 rfl rfl rfl).trans ((js1 at209_107 rfl rfl rfl).trans ((js1 at209_108 rfl rfl rfl).trans ((js1 at209_109 rfl rfl rfl).trans (jscall (H := H) (as := [.ref r0, .int x1, .int x2, .int x3]) (q := []) at209_110 rfl rv209i_345 (jscutV rfl rfl rfl (Nat.le_of_ble_eq_true rfl) rfl h0) rfl (Nat.le_of_ble_eq_true rfl) rfl rfl))))))
theorem at209_113 : jm_at 209 113 = some (.aload_n 0) := rfl
theorem at209_114 : jm_at 209 114 = some (.getfield 328) := rfl
theorem rv209g_328 : jm_rv 209 (.getfield 328) = (0, 12, 48, 0) := rfl
theorem at209_117 : jm_at 209 117 = some (.i2l) := rfl
theorem at209_118 : jm_at 209 118 = some (.lstore 7) := rfl
theorem at209_120 : jm_at 209 120 = some (.aload_n 0) := rfl
theorem at209_121 : jm_at 209 121 = some (.getfield 331) := rfl
theorem rv209g_331 : jm_rv 209 (.getfield 331) = (0, 12, 49, 0) := rfl
theorem at209_124 : jm_at 209 124 = some (.istore 9) := rfl
theorem at209_126 : jm_at 209 126 = some (.aload_n 0) := rfl
theorem at209_127 : jm_at 209 127 = some (.iload_n 1) := rfl
theorem at209_128 : jm_at 209 128 = some (.iload_n 2) := rfl
theorem at209_129 : jm_at 209 129 = some (.iload 4) := rfl
theorem at209_131 : jm_at 209 131 = some (.invokevirtual 345) := rfl
theorem u209_113 {S : Option (Nat × (Nat → Int32))} {H : jm_H} {Q : Option Value → jm_H → Prop} {r0 : Nat} {x1 x2 x3 x4 x5 x6 : Int32} (h0 : jm_tg H r0 = 13) : jm_w S 6 209 113 [.ref r0, .int x1, .int x2, .int x3, .int x4, .int x5, .int x6, .null, .null, .null] [] H Q = jm_c S 193 [.ref r0, .int x1, .int x2, .int x4] H (fun v G => jm_w S 6 209 134 [.ref r0, .int x1, .int x2, .int x3, .int x4, .int x5, .int x6, .long (Int32.toInt64 (jm_I H r0 48)), .null, .int (jm_I H r0 49)] (v.toList ++ []) G Q) := (js1 at209_113 rfl rfl rfl).trans ((jsgI (H := H) at209_114 rv209g_328 (Or.inl rfl) h0 rfl).trans ((js0 at209_117 rfl rfl rfl).trans ((js1 at209_118 rfl rfl rfl).trans ((js1 at209_120 rfl rfl rfl).trans ((jsgI (H := H) at209_121 rv209g_331 (Or.inl rfl) h0 rfl).trans ((js1 at209_124 rfl rfl rfl).trans ((js1 at209_126 rfl rfl rfl).trans ((js1 at209_127 rfl rfl rfl).trans ((js1 at209_128 rfl rfl rfl).trans ((js1 at209_129 rfl rfl rfl).trans (jscall (H := H) (as := [.ref r0, .int x1, .int x2, .int x4]) (q := []) at209_131 rfl rv209i_345 (jscutV rfl rfl rfl (Nat.le_of_ble_eq_true rfl) rfl h0) rfl (Nat.le_of_ble_eq_true rfl) rfl rfl)))))))))))
theorem at209_134 : jm_at 209 134 = some (.iload 5) := rfl
theorem at209_136 : jm_at 209 136 = some (.iconst 2) := rfl
theorem at209_137 : jm_at 209 137 = some (.if_icmp .ne 31) := rfl
theorem u209_134 {S : Option (Nat × (Nat → Int32))} {H : jm_H} {Q : Option Value → jm_H → Prop} {r0 : Nat} {x1 x2 x3 x4 x5 x6 x9 : Int32} {y7 : Int64} : jm_w S 6 209 134 [.ref r0, .int x1, .int x2, .int x3, .int x4, .int x5, .int x6, .long y7, .null, .int x9] [] H Q = if ¬ x5 = (2 : Int32) then jm_w S 6 209 168 [.ref r0, .int x1, .int x2, .int x3, .int x4, .int x5, .int x6, .long y7, .null, .int x9] [] H Q else jm_w S 6 209 140 [.ref r0, .int x1, .int x2, .int x3, .int x4, .int x5, .int x6, .long y7, .null, .int x9] [] H Q := (js1 at209_134 rfl rfl rfl).trans ((jsci at209_136 rfl rfl).trans (jsif (P := ¬ x5 = (2 : Int32)) at209_137 rfl rfl))
theorem at209_140 : jm_at 209 140 = some (.aload_n 0) := rfl
theorem at209_141 : jm_at 209 141 = some (.iload_n 1) := rfl
theorem at209_142 : jm_at 209 142 = some (.iload_n 2) := rfl
theorem at209_143 : jm_at 209 143 = some (.lload 7) := rfl
theorem at209_145 : jm_at 209 145 = some (.aload_n 0) := rfl
theorem at209_146 : jm_at 209 146 = some (.getfield 328) := rfl
theorem at209_149 : jm_at 209 149 = some (.i2l) := rfl
theorem at209_150 : jm_at 209 150 = some (.lmul) := rfl
theorem at209_151 : jm_at 209 151 = some (.iload 9) := rfl
theorem at209_153 : jm_at 209 153 = some (.aload_n 0) := rfl
theorem at209_154 : jm_at 209 154 = some (.getfield 331) := rfl
theorem at209_157 : jm_at 209 157 = some (.iadd) := rfl
theorem at209_158 : jm_at 209 158 = some (.lconst 1) := rfl
theorem at209_159 : jm_at 209 159 = some (.iconst 0) := rfl
theorem at209_160 : jm_at 209 160 = some (.iload 6) := rfl
theorem at209_162 : jm_at 209 162 = some (.invokevirtual 389) := rfl
theorem rv209i_389 : jm_rv 209 (.invokevirtual 389) = (2, 189, 0, 0) := rfl
theorem u209_140 {S : Option (Nat × (Nat → Int32))} {H : jm_H} {Q : Option Value → jm_H → Prop} {r0 : Nat} {x1 x2 x3 x4 x5 x6 x9 : Int32} {y7 : Int64} (h0 : jm_tg H r0 = 13) : jm_w S 6 209 140 [.ref r0, .int x1, .int x2, .int x3, .int x4, .int x5, .int x6, .long y7, .null, .int x9] [] H Q = jm_c S 189 [.ref r0, .int x1, .int x2, .long (y7 * (Int32.toInt64 (jm_I H r0 48))), .int (x9 + (jm_I H r0 49)), .long (1 : Int64), .int (0 : Int32), .int x6] H (fun v G => jm_w S 6 209 165 [.ref r0, .int x1, .int x2, .int x3, .int x4, .int x5, .int x6, .long y7, .null, .int x9] (v.toList ++ []) G Q) := (js1 at209_140 rfl rfl rfl).trans ((js1 at209_141 rfl rfl rfl).trans ((js1 at209_142 rfl rfl rfl).trans ((js1 at209_143 rfl rfl rfl).trans ((js1 at209_145 rfl rfl rfl).trans ((jsgI (H := H) at209_146 rv209g_328 (Or.inl rfl) h0 rfl).trans ((js0 at209_149 rfl rfl rfl).trans ((js0 at209_150 rfl rfl rfl).trans ((js1 at209_151 rfl rfl rfl).trans ((js1 at209_153 rfl rfl rfl).trans ((jsgI (H := H) at209_154 rv209g_331 (Or.inl rfl) h0 rfl).trans ((js0 at209_157 rfl rfl rfl).trans ((jscl at209_158 rfl rfl).trans ((jsci at209_159 rfl rfl).trans ((js1 at209_160 rfl rfl rfl).trans (jscall (H := H) (as := [.ref r0, .int x1, .int x2, .long (y7 * (Int32.toInt64 (jm_I H r0 48))), .int (x9 + (jm_I H r0 49)), .long (1 : Int64), .int (0 : Int32), .int x6]) (q := []) at209_162 rfl rv209i_389 (jscutV rfl rfl rfl (Nat.le_of_ble_eq_true rfl) rfl h0) rfl (Nat.le_of_ble_eq_true rfl) rfl rfl)))))))))))))))
theorem at209_165 : jm_at 209 165 = some (.goto 24) := rfl
theorem u209_165 {S : Option (Nat × (Nat → Int32))} {H : jm_H} {Q : Option Value → jm_H → Prop} {r0 : Nat} {x1 x2 x3 x4 x5 x6 x9 p0 : Int32} {y7 : Int64} : jm_w S 6 209 165 [.ref r0, .int x1, .int x2, .int x3, .int x4, .int x5, .int x6, .long y7, .null, .int x9] [.int p0] H Q = jm_w S 6 209 189 [.ref r0, .int x1, .int x2, .int x3, .int x4, .int x5, .int x6, .long y7, .null, .int x9] [.int p0] H Q := js2 at209_165 rfl rfl
theorem at209_168 : jm_at 209 168 = some (.aload_n 0) := rfl
theorem at209_169 : jm_at 209 169 = some (.iload_n 1) := rfl
theorem at209_170 : jm_at 209 170 = some (.iload_n 2) := rfl
theorem at209_171 : jm_at 209 171 = some (.lload 7) := rfl
theorem at209_173 : jm_at 209 173 = some (.iload 9) := rfl
theorem at209_175 : jm_at 209 175 = some (.aload_n 0) := rfl
theorem at209_176 : jm_at 209 176 = some (.getfield 328) := rfl
theorem at209_179 : jm_at 209 179 = some (.i2l) := rfl
theorem at209_180 : jm_at 209 180 = some (.aload_n 0) := rfl
theorem at209_181 : jm_at 209 181 = some (.getfield 331) := rfl
theorem at209_184 : jm_at 209 184 = some (.iload 6) := rfl
theorem at209_186 : jm_at 209 186 = some (.invokevirtual 389) := rfl
theorem u209_168 {S : Option (Nat × (Nat → Int32))} {H : jm_H} {Q : Option Value → jm_H → Prop} {r0 : Nat} {x1 x2 x3 x4 x5 x6 x9 : Int32} {y7 : Int64} (h0 : jm_tg H r0 = 13) : jm_w S 6 209 168 [.ref r0, .int x1, .int x2, .int x3, .int x4, .int x5, .int x6, .long y7, .null, .int x9] [] H Q = jm_c S 189 [.ref r0, .int x1, .int x2, .long y7, .int x9, .long (Int32.toInt64 (jm_I H r0 48)), .int (jm_I H r0 49), .int x6] H (fun v G => jm_w S 6 209 189 [.ref r0, .int x1, .int x2, .int x3, .int x4, .int x5, .int x6, .long y7, .null, .int x9] (v.toList ++ []) G Q) := (js1 at209_168 rfl rfl rfl).trans ((js1 at209_169 rfl rfl rfl).trans ((js1 at209_170 rfl rfl rfl).trans ((js1 at209_171 rfl rfl rfl).trans ((js1 at209_173 rfl rfl rfl).trans ((js1 at209_175 rfl rfl rfl).trans ((jsgI (H := H) at209_176 rv209g_328 (Or.inl rfl) h0 rfl).trans ((js0 at209_179 rfl rfl rfl).trans ((js1 at209_180 rfl rfl rfl).trans ((jsgI (H := H) at209_181 rv209g_331 (Or.inl rfl) h0 rfl).trans ((js1 at209_184 rfl rfl rfl).trans (jscall (H := H) (as := [.ref r0, .int x1, .int x2, .long y7, .int x9, .long (Int32.toInt64 (jm_I H r0 48)), .int (jm_I H r0 49), .int x6]) (q := []) at209_186 rfl rv209i_389 (jscutV rfl rfl rfl (Nat.le_of_ble_eq_true rfl) rfl h0) rfl (Nat.le_of_ble_eq_true rfl) rfl rfl)))))))))))
theorem at209_189 : jm_at 209 189 = some (.ireturn) := rfl
theorem u209_189 {S : Option (Nat × (Nat → Int32))} {H : jm_H} {Q : Option Value → jm_H → Prop} {r0 : Nat} {x1 x2 x3 x4 x5 x6 x9 p0 : Int32} {y7 : Int64} : jm_w S 6 209 189 [.ref r0, .int x1, .int x2, .int x3, .int x4, .int x5, .int x6, .long y7, .null, .int x9] [.int p0] H Q = Q (some (.int p0)) H := jsret_i at209_189 rfl
theorem en209 {S : Option (Nat × (Nat → Int32))} {H : jm_H} {Q : Option Value → jm_H → Prop} {r0 : Nat} {x1 x2 x3 x4 x5 : Int32} : jm_c S 209 [.ref r0, .int x1, .int x2, .int x3, .int x4, .int x5] H Q = jm_w S 6 209 0 [.ref r0, .int x1, .int x2, .int x3, .int x4, .int x5, .null, .null, .null, .null] [] H Q := rfl
theorem at210_0 : jm_at 210 0 = some (.iload_n 3) := rfl
theorem at210_1 : jm_at 210 1 = some (.ifCond .ne 4) := rfl
theorem u210_0 {S : Option (Nat × (Nat → Int32))} {H : jm_H} {Q : Option Value → jm_H → Prop} {r0 : Nat} {x1 x2 x3 x4 : Int32} : jm_w S 4 210 0 [.ref r0, .int x1, .int x2, .int x3, .int x4] [] H Q = if ¬ x3 = 0 then jm_w S 4 210 5 [.ref r0, .int x1, .int x2, .int x3, .int x4] [] H Q else jm_w S 4 210 4 [.ref r0, .int x1, .int x2, .int x3, .int x4] [] H Q := (js1 at210_0 rfl rfl rfl).trans (jsif (P := ¬ x3 = 0) at210_1 rfl rfl)
theorem at210_4 : jm_at 210 4 = some (.return_) := rfl
theorem u210_4 {S : Option (Nat × (Nat → Int32))} {H : jm_H} {Q : Option Value → jm_H → Prop} {r0 : Nat} {x1 x2 x3 x4 : Int32} : jm_w S 4 210 4 [.ref r0, .int x1, .int x2, .int x3, .int x4] [] H Q = Q none H := jsret_v at210_4 rfl
theorem at210_5 : jm_at 210 5 = some (.aload_n 0) := rfl
theorem at210_6 : jm_at 210 6 = some (.iload_n 1) := rfl
theorem at210_7 : jm_at 210 7 = some (.iload_n 2) := rfl
theorem at210_8 : jm_at 210 8 = some (.iload_n 3) := rfl
theorem at210_9 : jm_at 210 9 = some (.invokevirtual 345) := rfl
theorem rv210i_345 : jm_rv 210 (.invokevirtual 345) = (2, 193, 0, 0) := rfl
theorem u210_5 {S : Option (Nat × (Nat → Int32))} {H : jm_H} {Q : Option Value → jm_H → Prop} {r0 : Nat} {x1 x2 x3 x4 : Int32} (h0 : jm_tg H r0 = 13) : jm_w S 4 210 5 [.ref r0, .int x1, .int x2, .int x3, .int x4] [] H Q = jm_c S 193 [.ref r0, .int x1, .int x2, .int x3] H (fun v G => jm_w S 4 210 12 [.ref r0, .int x1, .int x2, .int x3, .int x4] (v.toList ++ []) G Q) := (js1 at210_5 rfl rfl rfl).trans ((js1 at210_6 rfl rfl rfl).trans ((js1 at210_7 rfl rfl rfl).trans ((js1 at210_8 rfl rfl rfl).trans (jscall (H := H) (as := [.ref r0, .int x1, .int x2, .int x3]) (q := []) at210_9 rfl rv210i_345 (jscutV rfl rfl rfl (Nat.le_of_ble_eq_true rfl) rfl h0) rfl (Nat.le_of_ble_eq_true rfl) rfl rfl))))
theorem at210_12 : jm_at 210 12 = some (.aload_n 0) := rfl
theorem at210_13 : jm_at 210 13 = some (.aload_n 0) := rfl
theorem at210_14 : jm_at 210 14 = some (.getfield 328) := rfl
theorem rv210g_328 : jm_rv 210 (.getfield 328) = (0, 12, 48, 0) := rfl
theorem at210_17 : jm_at 210 17 = some (.i2l) := rfl
theorem at210_18 : jm_at 210 18 = some (.aload_n 0) := rfl
theorem at210_19 : jm_at 210 19 = some (.getfield 331) := rfl
theorem rv210g_331 : jm_rv 210 (.getfield 331) = (0, 12, 49, 0) := rfl
theorem at210_22 : jm_at 210 22 = some (.iload 4) := rfl
theorem at210_24 : jm_at 210 24 = some (.iload_n 1) := rfl
theorem at210_25 : jm_at 210 25 = some (.iload_n 3) := rfl
theorem at210_26 : jm_at 210 26 = some (.invokestatic 348) := rfl
theorem rv210i_348 : jm_rv 210 (.invokestatic 348) = (1, 206, 0, 0) := rfl
theorem u210_12 {S : Option (Nat × (Nat → Int32))} {H : jm_H} {Q : Option Value → jm_H → Prop} {r0 : Nat} {x1 x2 x3 x4 : Int32} (h0 : jm_tg H r0 = 13) : jm_w S 4 210 12 [.ref r0, .int x1, .int x2, .int x3, .int x4] [] H Q = jm_c S 206 [.int x1, .int x3] H (fun v G => jm_w S 4 210 29 [.ref r0, .int x1, .int x2, .int x3, .int x4] (v.toList ++ [.int x4, .int (jm_I H r0 49), .long (Int32.toInt64 (jm_I H r0 48)), .ref r0]) G Q) := (js1 at210_12 rfl rfl rfl).trans ((js1 at210_13 rfl rfl rfl).trans ((jsgI (H := H) at210_14 rv210g_328 (Or.inl rfl) h0 rfl).trans ((js0 at210_17 rfl rfl rfl).trans ((js1 at210_18 rfl rfl rfl).trans ((jsgI (H := H) at210_19 rv210g_331 (Or.inl rfl) h0 rfl).trans ((js1 at210_22 rfl rfl rfl).trans ((js1 at210_24 rfl rfl rfl).trans ((js1 at210_25 rfl rfl rfl).trans (jscall (H := H) (as := [.int x1, .int x3]) (q := [.int x4, .int (jm_I H r0 49), .long (Int32.toInt64 (jm_I H r0 48)), .ref r0]) at210_26 rfl rv210i_348 (jscut rfl rfl rfl (Nat.le_of_ble_eq_true rfl)) rfl (Nat.le_of_ble_eq_true rfl) rfl rfl)))))))))
theorem at210_29 : jm_at 210 29 = some (.imul) := rfl
theorem at210_30 : jm_at 210 30 = some (.invokevirtual 351) := rfl
theorem rv210i_351 : jm_rv 210 (.invokevirtual 351) = (2, 207, 0, 0) := rfl
theorem u210_29 {S : Option (Nat × (Nat → Int32))} {H : jm_H} {Q : Option Value → jm_H → Prop} {r0 o0 : Nat} {x1 x2 x3 x4 p2 p3 p4 : Int32} {q1 : Int64} (h0 : jm_tg H o0 = 13) : jm_w S 4 210 29 [.ref r0, .int x1, .int x2, .int x3, .int x4] [.int p4, .int p3, .int p2, .long q1, .ref o0] H Q = jm_c S 207 [.ref o0, .long q1, .int p2, .int (p3 * p4)] H (fun v G => jm_w S 4 210 33 [.ref r0, .int x1, .int x2, .int x3, .int x4] (v.toList ++ []) G Q) := (js0 at210_29 rfl rfl rfl).trans (jscall (H := H) (as := [.ref o0, .long q1, .int p2, .int (p3 * p4)]) (q := []) at210_30 rfl rv210i_351 (jscutV rfl rfl rfl (Nat.le_of_ble_eq_true rfl) rfl h0) rfl (Nat.le_of_ble_eq_true rfl) rfl rfl)
theorem at210_33 : jm_at 210 33 = some (.return_) := rfl
theorem u210_33 {S : Option (Nat × (Nat → Int32))} {H : jm_H} {Q : Option Value → jm_H → Prop} {r0 : Nat} {x1 x2 x3 x4 : Int32} : jm_w S 4 210 33 [.ref r0, .int x1, .int x2, .int x3, .int x4] [] H Q = Q none H := jsret_v at210_33 rfl
theorem en210 {S : Option (Nat × (Nat → Int32))} {H : jm_H} {Q : Option Value → jm_H → Prop} {r0 : Nat} {x1 x2 x3 x4 : Int32} : jm_c S 210 [.ref r0, .int x1, .int x2, .int x3, .int x4] H Q = jm_w S 4 210 0 [.ref r0, .int x1, .int x2, .int x3, .int x4] [] H Q := rfl
theorem at211_0 : jm_at 211 0 = some (.aload_n 0) := rfl
theorem at211_1 : jm_at 211 1 = some (.getfield 37) := rfl
theorem rv211g_37 : jm_rv 211 (.getfield 37) = (0, 12, 16, 0) := rfl
theorem at211_4 : jm_at 211 4 = some (.ireturn) := rfl
theorem u211_0 {S : Option (Nat × (Nat → Int32))} {H : jm_H} {Q : Option Value → jm_H → Prop} {r0 : Nat} (h0 : jm_tg H r0 = 13) : jm_w S 1 211 0 [.ref r0] [] H Q = Q (some (.int (jm_I H r0 16))) H := (js1 at211_0 rfl rfl rfl).trans ((jsgI (H := H) at211_1 rv211g_37 (Or.inl rfl) h0 rfl).trans (jsret_i at211_4 rfl))
theorem en211 {S : Option (Nat × (Nat → Int32))} {H : jm_H} {Q : Option Value → jm_H → Prop} {r0 : Nat} : jm_c S 211 [.ref r0] H Q = jm_w S 1 211 0 [.ref r0] [] H Q := rfl
theorem at212_0 : jm_at 212 0 = some (.aload_n 0) := rfl
theorem at212_1 : jm_at 212 1 = some (.getfield 206) := rfl
theorem rv212g_206 : jm_rv 212 (.getfield 206) = (0, 12, 40, 0) := rfl
theorem at212_4 : jm_at 212 4 = some (.ifCond .ne 5) := rfl
theorem u212_0 {S : Option (Nat × (Nat → Int32))} {H : jm_H} {Q : Option Value → jm_H → Prop} {r0 : Nat} (h0 : jm_tg H r0 = 13) : jm_w S 10 212 0 [.ref r0] [] H Q = if ¬ (jm_I H r0 40) = 0 then jm_w S 10 212 9 [.ref r0] [] H Q else jm_w S 10 212 7 [.ref r0] [] H Q := (js1 at212_0 rfl rfl rfl).trans ((jsgI (H := H) at212_1 rv212g_206 (Or.inl rfl) h0 rfl).trans (jsif (P := ¬ (jm_I H r0 40) = 0) at212_4 rfl rfl))
theorem at212_7 : jm_at 212 7 = some (.iconst 0) := rfl
theorem at212_8 : jm_at 212 8 = some (.ireturn) := rfl
theorem u212_7 {S : Option (Nat × (Nat → Int32))} {H : jm_H} {Q : Option Value → jm_H → Prop} {r0 : Nat} : jm_w S 10 212 7 [.ref r0] [] H Q = Q (some (.int (0 : Int32))) H := (jsci at212_7 rfl rfl).trans (jsret_z at212_8 rfl (by decide))
theorem at212_9 : jm_at 212 9 = some (.aload_n 0) := rfl
theorem at212_10 : jm_at 212 10 = some (.dup) := rfl
theorem at212_11 : jm_at 212 11 = some (.getfield 206) := rfl
theorem at212_14 : jm_at 212 14 = some (.iconst 1) := rfl
theorem at212_15 : jm_at 212 15 = some (.isub) := rfl
theorem at212_16 : jm_at 212 16 = some (.putfield 206) := rfl
theorem rv212p_206 : jm_rv 212 (.putfield 206) = (0, 12, 40, 0) := rfl
theorem at212_19 : jm_at 212 19 = some (.aload_n 0) := rfl
theorem at212_20 : jm_at 212 20 = some (.aload_n 0) := rfl
theorem at212_21 : jm_at 212 21 = some (.getfield 82) := rfl
theorem rv212g_82 : jm_rv 212 (.getfield 82) = (0, 12, 38, 0) := rfl
theorem at212_24 : jm_at 212 24 = some (.bipush 20) := rfl
theorem at212_26 : jm_at 212 26 = some (.aload_n 0) := rfl
theorem at212_27 : jm_at 212 27 = some (.getfield 293) := rfl
theorem rv212g_293 : jm_rv 212 (.getfield 293) = (0, 12, 39, 0) := rfl
theorem at212_30 : jm_at 212 30 = some (.aload_n 0) := rfl
theorem at212_31 : jm_at 212 31 = some (.getfield 206) := rfl
theorem at212_34 : jm_at 212 34 = some (.iadd) := rfl
theorem at212_35 : jm_at 212 35 = some (.bipush 40) := rfl
theorem at212_37 : jm_at 212 37 = some (.irem) := rfl
theorem at212_38 : jm_at 212 38 = some (.imul) := rfl
theorem at212_39 : jm_at 212 39 = some (.invokevirtual 296) := rfl
theorem rv212i_296 : jm_rv 212 (.invokevirtual 296) = (2, 213, 0, 0) := rfl
theorem u212_9 {S : Option (Nat × (Nat → Int32))} {H : jm_H} {Q : Option Value → jm_H → Prop} {r0 : Nat} (h0 : jm_tg H r0 = 13) (h1 : ¬ jm_R H r0 38 = 0) : jm_w S 10 212 9 [.ref r0] [] H Q = jm_c S 213 [.ref r0, .ref (jm_R H r0 38), .int ((20 : Int32) * (((jm_I (jm_pI H r0 40 ((jm_I H r0 40) - (1 : Int32))) r0 39) + (jm_I (jm_pI H r0 40 ((jm_I H r0 40) - (1 : Int32))) r0 40)) - ((jm_I (jm_pI H r0 40 ((jm_I H r0 40) - (1 : Int32))) r0 39) + (jm_I (jm_pI H r0 40 ((jm_I H r0 40) - (1 : Int32))) r0 40)) / (40 : Int32) * (40 : Int32)))] (jm_pI H r0 40 ((jm_I H r0 40) - (1 : Int32))) (fun v G => jm_w S 10 212 42 [.ref r0] (v.toList ++ []) G Q) := (js1 at212_9 rfl rfl rfl).trans ((js0 at212_10 rfl rfl rfl).trans ((jsgI (H := H) at212_11 rv212g_206 (Or.inl rfl) h0 rfl).trans ((jsci at212_14 rfl rfl).trans ((js0 at212_15 rfl rfl rfl).trans ((jspI (H := H) at212_16 rv212p_206 rfl h0 rfl).trans ((js1 at212_19 rfl rfl rfl).trans ((js1 at212_20 rfl rfl rfl).trans ((jsgR (H := (jm_pI H r0 40 ((jm_I H r0 40) - (1 : Int32)))) at212_21 rv212g_82 rfl h0 h1 rfl).trans ((jscb at212_24 rfl rfl).trans ((js1 at212_26 rfl rfl rfl).trans ((jsgI (H := (jm_pI H r0 40 ((jm_I H r0 40) - (1 : Int32)))) at212_27 rv212g_293 (Or.inl rfl) h0 rfl).trans ((js1 at212_30 rfl rfl rfl).trans ((jsgI (H := (jm_pI H r0 40 ((jm_I H r0 40) - (1 : Int32)))) at212_31 rv212g_206 (Or.inl rfl) h0 rfl).trans ((js0 at212_34 rfl rfl rfl).trans ((jscb at212_35 rfl rfl).trans ((jsirem at212_37 (by decide) rfl).trans ((js0 at212_38 rfl rfl rfl).trans (jscall (H := (jm_pI H r0 40 ((jm_I H r0 40) - (1 : Int32)))) (as := [.ref r0, .ref (jm_R H r0 38), .int ((20 : Int32) * (((jm_I (jm_pI H r0 40 ((jm_I H r0 40) - (1 : Int32))) r0 39) + (jm_I (jm_pI H r0 40 ((jm_I H r0 40) - (1 : Int32))) r0 40)) - ((jm_I (jm_pI H r0 40 ((jm_I H r0 40) - (1 : Int32))) r0 39) + (jm_I (jm_pI H r0 40 ((jm_I H r0 40) - (1 : Int32))) r0 40)) / (40 : Int32) * (40 : Int32)))]) (q := []) at212_39 rfl rv212i_296 (jscutV rfl rfl rfl (Nat.le_of_ble_eq_true rfl) rfl h0) rfl (Nat.le_of_ble_eq_true rfl) rfl rfl))))))))))))))))))
theorem at212_42 : jm_at 212 42 = some (.iconst 1) := rfl
theorem at212_43 : jm_at 212 43 = some (.ireturn) := rfl
theorem u212_42 {S : Option (Nat × (Nat → Int32))} {H : jm_H} {Q : Option Value → jm_H → Prop} {r0 : Nat} : jm_w S 10 212 42 [.ref r0] [] H Q = Q (some (.int (1 : Int32))) H := (jsci at212_42 rfl rfl).trans (jsret_z at212_43 rfl (by decide))
theorem en212 {S : Option (Nat × (Nat → Int32))} {H : jm_H} {Q : Option Value → jm_H → Prop} {r0 : Nat} : jm_c S 212 [.ref r0] H Q = jm_w S 10 212 0 [.ref r0] [] H Q := rfl
theorem at213_0 : jm_at 213 0 = some (.iconst 0) := rfl
theorem at213_1 : jm_at 213 1 = some (.istore_n 3) := rfl
theorem u213_0 {S : Option (Nat × (Nat → Int32))} {H : jm_H} {Q : Option Value → jm_H → Prop} {r0 r1 : Nat} {x2 : Int32} : jm_w S 9 213 0 [.ref r0, .ref r1, .int x2, .null] [] H Q = jm_w S 9 213 2 [.ref r0, .ref r1, .int x2, .int (0 : Int32)] [] H Q := (jsci at213_0 rfl rfl).trans (js1 at213_1 rfl rfl rfl)
theorem at213_2 : jm_at 213 2 = some (.iload_n 3) := rfl
theorem at213_3 : jm_at 213 3 = some (.bipush 20) := rfl
theorem at213_5 : jm_at 213 5 = some (.if_icmp .ge 20) := rfl
theorem u213_2 {S : Option (Nat × (Nat → Int32))} {H : jm_H} {Q : Option Value → jm_H → Prop} {r0 r1 : Nat} {x2 x3 : Int32} : jm_w S 9 213 2 [.ref r0, .ref r1, .int x2, .int x3] [] H Q = if (20 : Int32) ≤ x3 then jm_w S 9 213 25 [.ref r0, .ref r1, .int x2, .int x3] [] H Q else jm_w S 9 213 8 [.ref r0, .ref r1, .int x2, .int x3] [] H Q := (js1 at213_2 rfl rfl rfl).trans ((jscb at213_3 rfl rfl).trans (jsif (P := (20 : Int32) ≤ x3) at213_5 rfl rfl))
theorem at213_8 : jm_at 213 8 = some (.aload_n 0) := rfl
theorem at213_9 : jm_at 213 9 = some (.getfield 40) := rfl
theorem rv213g_40 : jm_rv 213 (.getfield 40) = (0, 12, 17, 0) := rfl
theorem at213_12 : jm_at 213 12 = some (.iload_n 3) := rfl
theorem at213_13 : jm_at 213 13 = some (.aload_n 1) := rfl
theorem at213_14 : jm_at 213 14 = some (.iload_n 2) := rfl
theorem at213_15 : jm_at 213 15 = some (.iload_n 3) := rfl
theorem at213_16 : jm_at 213 16 = some (.iadd) := rfl
theorem at213_17 : jm_at 213 17 = some (.iaload) := rfl
theorem at213_18 : jm_at 213 18 = some (.iastore) := rfl
theorem at213_19 : jm_at 213 19 = some (.iinc 3 1) := rfl
theorem at213_22 : jm_at 213 22 = some (.goto (-20)) := rfl
theorem u213_8 {S : Option (Nat × (Nat → Int32))} {H : jm_H} {Q : Option Value → jm_H → Prop} {r0 r1 : Nat} {x2 x3 : Int32} (h0 : jm_tg H r0 = 13) (h1 : ¬ jm_R H r0 17 = 0) (h2 : ¬ ((x2 + x3) < 0 ∨ jm_ln H r1 ≤ Int32.toNatClampNeg (x2 + x3))) (h3 : ¬ r1 = 1) (h4 : jm_tg H r1 = 100) (h5 : ¬ (x3 < 0 ∨ jm_ln H (jm_R H r0 17) ≤ Int32.toNatClampNeg x3)) (h6 : jm_tg H (jm_R H r0 17) = 100) : jm_w S 9 213 8 [.ref r0, .ref r1, .int x2, .int x3] [] H Q = jm_w S 9 213 2 [.ref r0, .ref r1, .int x2, .int (x3 + 1)] [] (jm_pI H (jm_R H r0 17) (Int32.toNatClampNeg x3) (jm_I H r1 (Int32.toNatClampNeg (x2 + x3)))) Q := (js1 at213_8 rfl rfl rfl).trans ((jsgR (H := H) at213_9 rv213g_40 rfl h0 h1 rfl).trans ((js1 at213_12 rfl rfl rfl).trans ((js1 at213_13 rfl rfl rfl).trans ((js1 at213_14 rfl rfl rfl).trans ((js1 at213_15 rfl rfl rfl).trans ((js0 at213_16 rfl rfl rfl).trans ((jsial (H := H) at213_17 h3 h4 h2 rfl).trans ((jsias (H := H) at213_18 h6 h5 rfl).trans ((jsinc at213_19 rfl rfl rfl).trans (js2 at213_22 rfl rfl))))))))))
theorem at213_25 : jm_at 213 25 = some (.aload_n 0) := rfl
theorem at213_26 : jm_at 213 26 = some (.invokevirtual 203) := rfl
theorem rv213i_203 : jm_rv 213 (.invokevirtual 203) = (2, 186, 0, 0) := rfl
theorem u213_25 {S : Option (Nat × (Nat → Int32))} {H : jm_H} {Q : Option Value → jm_H → Prop} {r0 r1 : Nat} {x2 x3 : Int32} (h0 : jm_tg H r0 = 13) : jm_w S 9 213 25 [.ref r0, .ref r1, .int x2, .int x3] [] H Q = jm_c S 186 [.ref r0] H (fun v G => jm_w S 9 213 29 [.ref r0, .ref r1, .int x2, .int x3] (v.toList ++ []) G Q) := (js1 at213_25 rfl rfl rfl).trans (jscall (H := H) (as := [.ref r0]) (q := []) at213_26 rfl rv213i_203 (jscutV rfl rfl rfl (Nat.le_of_ble_eq_true rfl) rfl h0) rfl (Nat.le_of_ble_eq_true rfl) rfl rfl)
theorem at213_29 : jm_at 213 29 = some (.return_) := rfl
theorem u213_29 {S : Option (Nat × (Nat → Int32))} {H : jm_H} {Q : Option Value → jm_H → Prop} {r0 r1 : Nat} {x2 x3 : Int32} : jm_w S 9 213 29 [.ref r0, .ref r1, .int x2, .int x3] [] H Q = Q none H := jsret_v at213_29 rfl
theorem en213 {S : Option (Nat × (Nat → Int32))} {H : jm_H} {Q : Option Value → jm_H → Prop} {r0 r1 : Nat} {x2 : Int32} : jm_c S 213 [.ref r0, .ref r1, .int x2] H Q = jm_w S 9 213 0 [.ref r0, .ref r1, .int x2, .null] [] H Q := rfl
theorem at214_0 : jm_at 214 0 = some (.iload_n 1) := rfl
theorem at214_1 : jm_at 214 1 = some (.iconst 0) := rfl
theorem at214_2 : jm_at 214 2 = some (.iconst 2) := rfl
theorem at214_3 : jm_at 214 3 = some (.invokestatic 218) := rfl
theorem rv214i_218 : jm_rv 214 (.invokestatic 218) = (1, 176, 0, 0) := rfl
theorem u214_0 {S : Option (Nat × (Nat → Int32))} {H : jm_H} {Q : Option Value → jm_H → Prop} {r0 : Nat} {x1 : Int32} : jm_w S 2 214 0 [.ref r0, .int x1, .null] [] H Q = jm_c S 176 [.int x1, .int (0 : Int32), .int (2 : Int32)] H (fun v G => jm_w S 2 214 6 [.ref r0, .int x1, .null] (v.toList ++ []) G Q) := (js1 at214_0 rfl rfl rfl).trans ((jsci at214_1 rfl rfl).trans ((jsci at214_2 rfl rfl).trans (jscall (H := H) (as := [.int x1, .int (0 : Int32), .int (2 : Int32)]) (q := []) at214_3 rfl rv214i_218 (jscut rfl rfl rfl (Nat.le_of_ble_eq_true rfl)) rfl (Nat.le_of_ble_eq_true rfl) rfl rfl)))
theorem at214_6 : jm_at 214 6 = some (.ifCond .ne 5) := rfl
theorem u214_6 {S : Option (Nat × (Nat → Int32))} {H : jm_H} {Q : Option Value → jm_H → Prop} {r0 : Nat} {x1 p0 : Int32} : jm_w S 2 214 6 [.ref r0, .int x1, .null] [.int p0] H Q = if ¬ p0 = 0 then jm_w S 2 214 11 [.ref r0, .int x1, .null] [] H Q else jm_w S 2 214 9 [.ref r0, .int x1, .null] [] H Q := jsif (P := ¬ p0 = 0) at214_6 rfl rfl
theorem at214_9 : jm_at 214 9 = some (.iconst 0) := rfl
theorem at214_10 : jm_at 214 10 = some (.ireturn) := rfl
theorem u214_9 {S : Option (Nat × (Nat → Int32))} {H : jm_H} {Q : Option Value → jm_H → Prop} {r0 : Nat} {x1 : Int32} : jm_w S 2 214 9 [.ref r0, .int x1, .null] [] H Q = Q (some (.int (0 : Int32))) H := (jsci at214_9 rfl rfl).trans (jsret_z at214_10 rfl (by decide))
theorem at214_11 : jm_at 214 11 = some (.iconst 0) := rfl
theorem at214_12 : jm_at 214 12 = some (.istore_n 2) := rfl
theorem u214_11 {S : Option (Nat × (Nat → Int32))} {H : jm_H} {Q : Option Value → jm_H → Prop} {r0 : Nat} {x1 : Int32} : jm_w S 2 214 11 [.ref r0, .int x1, .null] [] H Q = jm_w S 2 214 13 [.ref r0, .int x1, .int (0 : Int32)] [] H Q := (jsci at214_11 rfl rfl).trans (js1 at214_12 rfl rfl rfl)
theorem at214_13 : jm_at 214 13 = some (.iload_n 2) := rfl
theorem at214_14 : jm_at 214 14 = some (.bipush 20) := rfl
theorem at214_16 : jm_at 214 16 = some (.if_icmp .ge 26) := rfl
theorem u214_13 {S : Option (Nat × (Nat → Int32))} {H : jm_H} {Q : Option Value → jm_H → Prop} {r0 : Nat} {x1 x2 : Int32} : jm_w S 2 214 13 [.ref r0, .int x1, .int x2] [] H Q = if (20 : Int32) ≤ x2 then jm_w S 2 214 42 [.ref r0, .int x1, .int x2] [] H Q else jm_w S 2 214 19 [.ref r0, .int x1, .int x2] [] H Q := (js1 at214_13 rfl rfl rfl).trans ((jscb at214_14 rfl rfl).trans (jsif (P := (20 : Int32) ≤ x2) at214_16 rfl rfl))
theorem at214_19 : jm_at 214 19 = some (.aload_n 0) := rfl
theorem at214_20 : jm_at 214 20 = some (.getfield 85) := rfl
theorem rv214g_85 : jm_rv 214 (.getfield 85) = (0, 12, 41, 0) := rfl
theorem at214_23 : jm_at 214 23 = some (.bipush 20) := rfl
theorem at214_25 : jm_at 214 25 = some (.iload_n 1) := rfl
theorem at214_26 : jm_at 214 26 = some (.imul) := rfl
theorem at214_27 : jm_at 214 27 = some (.iload_n 2) := rfl
theorem at214_28 : jm_at 214 28 = some (.iadd) := rfl
theorem at214_29 : jm_at 214 29 = some (.aload_n 0) := rfl
theorem at214_30 : jm_at 214 30 = some (.getfield 40) := rfl
theorem rv214g_40 : jm_rv 214 (.getfield 40) = (0, 12, 17, 0) := rfl
theorem at214_33 : jm_at 214 33 = some (.iload_n 2) := rfl
theorem at214_34 : jm_at 214 34 = some (.iaload) := rfl
theorem at214_35 : jm_at 214 35 = some (.iastore) := rfl
theorem at214_36 : jm_at 214 36 = some (.iinc 2 1) := rfl
theorem at214_39 : jm_at 214 39 = some (.goto (-26)) := rfl
theorem u214_19 {S : Option (Nat × (Nat → Int32))} {H : jm_H} {Q : Option Value → jm_H → Prop} {r0 : Nat} {x1 x2 : Int32} (h0 : jm_tg H r0 = 13) (h1 : ¬ jm_R H r0 41 = 0) (h2 : ¬ jm_R H r0 17 = 0) (h3 : ¬ (x2 < 0 ∨ jm_ln H (jm_R H r0 17) ≤ Int32.toNatClampNeg x2)) (h4 : ¬ (jm_R H r0 17) = 1) (h5 : jm_tg H (jm_R H r0 17) = 100) (h6 : ¬ ((((20 : Int32) * x1) + x2) < 0 ∨ jm_ln H (jm_R H r0 41) ≤ Int32.toNatClampNeg (((20 : Int32) * x1) + x2))) (h7 : jm_tg H (jm_R H r0 41) = 100) : jm_w S 2 214 19 [.ref r0, .int x1, .int x2] [] H Q = jm_w S 2 214 13 [.ref r0, .int x1, .int (x2 + 1)] [] (jm_pI H (jm_R H r0 41) (Int32.toNatClampNeg (((20 : Int32) * x1) + x2)) (jm_I H (jm_R H r0 17) (Int32.toNatClampNeg x2))) Q := (js1 at214_19 rfl rfl rfl).trans ((jsgR (H := H) at214_20 rv214g_85 rfl h0 h1 rfl).trans ((jscb at214_23 rfl rfl).trans ((js1 at214_25 rfl rfl rfl).trans ((js0 at214_26 rfl rfl rfl).trans ((js1 at214_27 rfl rfl rfl).trans ((js0 at214_28 rfl rfl rfl).trans ((js1 at214_29 rfl rfl rfl).trans ((jsgR (H := H) at214_30 rv214g_40 rfl h0 h2 rfl).trans ((js1 at214_33 rfl rfl rfl).trans ((jsial (H := H) at214_34 h4 h5 h3 rfl).trans ((jsias (H := H) at214_35 h7 h6 rfl).trans ((jsinc at214_36 rfl rfl rfl).trans (js2 at214_39 rfl rfl)))))))))))))
theorem at214_42 : jm_at 214 42 = some (.aload_n 0) := rfl
theorem at214_43 : jm_at 214 43 = some (.getfield 88) := rfl
theorem rv214g_88 : jm_rv 214 (.getfield 88) = (0, 12, 42, 0) := rfl
theorem at214_46 : jm_at 214 46 = some (.iload_n 1) := rfl
theorem at214_47 : jm_at 214 47 = some (.iconst 1) := rfl
theorem at214_48 : jm_at 214 48 = some (.bastore) := rfl
theorem at214_49 : jm_at 214 49 = some (.iconst 1) := rfl
theorem at214_50 : jm_at 214 50 = some (.ireturn) := rfl
theorem u214_42 {S : Option (Nat × (Nat → Int32))} {H : jm_H} {Q : Option Value → jm_H → Prop} {r0 : Nat} {x1 x2 : Int32} (h0 : jm_tg H r0 = 13) (h1 : ¬ jm_R H r0 42 = 0) (h2 : ¬ (x1 < 0 ∨ jm_ln H (jm_R H r0 42) ≤ Int32.toNatClampNeg x1)) (h3 : jm_tg H (jm_R H r0 42) = 103) : jm_w S 2 214 42 [.ref r0, .int x1, .int x2] [] H Q = Q (some (.int (1 : Int32))) (jm_pI H (jm_R H r0 42) (Int32.toNatClampNeg x1) (1 : Int32)) := (js1 at214_42 rfl rfl rfl).trans ((jsgR (H := H) at214_43 rv214g_88 rfl h0 h1 rfl).trans ((js1 at214_46 rfl rfl rfl).trans ((jsci at214_47 rfl rfl).trans ((jszas (H := H) at214_48 h3 h2 (by decide) rfl).trans ((jsci at214_49 rfl rfl).trans (jsret_z at214_50 rfl (by decide)))))))
theorem en214 {S : Option (Nat × (Nat → Int32))} {H : jm_H} {Q : Option Value → jm_H → Prop} {r0 : Nat} {x1 : Int32} : jm_c S 214 [.ref r0, .int x1] H Q = jm_w S 2 214 0 [.ref r0, .int x1, .null] [] H Q := rfl
theorem at215_0 : jm_at 215 0 = some (.iload_n 1) := rfl
theorem at215_1 : jm_at 215 1 = some (.iconst 0) := rfl
theorem at215_2 : jm_at 215 2 = some (.iconst 2) := rfl
theorem at215_3 : jm_at 215 3 = some (.invokestatic 218) := rfl
theorem rv215i_218 : jm_rv 215 (.invokestatic 218) = (1, 176, 0, 0) := rfl
theorem u215_0 {S : Option (Nat × (Nat → Int32))} {H : jm_H} {Q : Option Value → jm_H → Prop} {r0 : Nat} {x1 : Int32} : jm_w S 10 215 0 [.ref r0, .int x1] [] H Q = jm_c S 176 [.int x1, .int (0 : Int32), .int (2 : Int32)] H (fun v G => jm_w S 10 215 6 [.ref r0, .int x1] (v.toList ++ []) G Q) := (js1 at215_0 rfl rfl rfl).trans ((jsci at215_1 rfl rfl).trans ((jsci at215_2 rfl rfl).trans (jscall (H := H) (as := [.int x1, .int (0 : Int32), .int (2 : Int32)]) (q := []) at215_3 rfl rv215i_218 (jscut rfl rfl rfl (Nat.le_of_ble_eq_true rfl)) rfl (Nat.le_of_ble_eq_true rfl) rfl rfl)))
theorem at215_6 : jm_at 215 6 = some (.ifCond .eq 12) := rfl
theorem u215_6 {S : Option (Nat × (Nat → Int32))} {H : jm_H} {Q : Option Value → jm_H → Prop} {r0 : Nat} {x1 p0 : Int32} : jm_w S 10 215 6 [.ref r0, .int x1] [.int p0] H Q = if p0 = 0 then jm_w S 10 215 18 [.ref r0, .int x1] [] H Q else jm_w S 10 215 9 [.ref r0, .int x1] [] H Q := jsif (P := p0 = 0) at215_6 rfl rfl
theorem at215_9 : jm_at 215 9 = some (.aload_n 0) := rfl
theorem at215_10 : jm_at 215 10 = some (.getfield 88) := rfl
theorem rv215g_88 : jm_rv 215 (.getfield 88) = (0, 12, 42, 0) := rfl
theorem at215_13 : jm_at 215 13 = some (.iload_n 1) := rfl
theorem at215_14 : jm_at 215 14 = some (.baload) := rfl
theorem at215_15 : jm_at 215 15 = some (.ifCond .ne 5) := rfl
theorem u215_9 {S : Option (Nat × (Nat → Int32))} {H : jm_H} {Q : Option Value → jm_H → Prop} {r0 : Nat} {x1 : Int32} (h0 : jm_tg H r0 = 13) (h1 : ¬ jm_R H r0 42 = 0) (h2 : ¬ (x1 < 0 ∨ jm_ln H (jm_R H r0 42) ≤ Int32.toNatClampNeg x1)) (h3 : jm_tg H (jm_R H r0 42) = 102 ∨ jm_tg H (jm_R H r0 42) = 103) : jm_w S 10 215 9 [.ref r0, .int x1] [] H Q = if ¬ (jm_I H (jm_R H r0 42) (Int32.toNatClampNeg x1)) = 0 then jm_w S 10 215 20 [.ref r0, .int x1] [] H Q else jm_w S 10 215 18 [.ref r0, .int x1] [] H Q := (js1 at215_9 rfl rfl rfl).trans ((jsgR (H := H) at215_10 rv215g_88 rfl h0 h1 rfl).trans ((js1 at215_13 rfl rfl rfl).trans ((jsbal (H := H) at215_14 h3 h2 rfl).trans (jsif (P := ¬ (jm_I H (jm_R H r0 42) (Int32.toNatClampNeg x1)) = 0) at215_15 rfl rfl))))
theorem at215_18 : jm_at 215 18 = some (.iconst 0) := rfl
theorem at215_19 : jm_at 215 19 = some (.ireturn) := rfl
theorem u215_18 {S : Option (Nat × (Nat → Int32))} {H : jm_H} {Q : Option Value → jm_H → Prop} {r0 : Nat} {x1 : Int32} : jm_w S 10 215 18 [.ref r0, .int x1] [] H Q = Q (some (.int (0 : Int32))) H := (jsci at215_18 rfl rfl).trans (jsret_z at215_19 rfl (by decide))
theorem at215_20 : jm_at 215 20 = some (.aload_n 0) := rfl
theorem at215_21 : jm_at 215 21 = some (.aload_n 0) := rfl
theorem at215_22 : jm_at 215 22 = some (.getfield 85) := rfl
theorem rv215g_85 : jm_rv 215 (.getfield 85) = (0, 12, 41, 0) := rfl
theorem at215_25 : jm_at 215 25 = some (.bipush 20) := rfl
theorem at215_27 : jm_at 215 27 = some (.iload_n 1) := rfl
theorem at215_28 : jm_at 215 28 = some (.imul) := rfl
theorem at215_29 : jm_at 215 29 = some (.invokevirtual 296) := rfl
theorem rv215i_296 : jm_rv 215 (.invokevirtual 296) = (2, 213, 0, 0) := rfl
theorem u215_20 {S : Option (Nat × (Nat → Int32))} {H : jm_H} {Q : Option Value → jm_H → Prop} {r0 : Nat} {x1 : Int32} (h0 : jm_tg H r0 = 13) (h1 : ¬ jm_R H r0 41 = 0) : jm_w S 10 215 20 [.ref r0, .int x1] [] H Q = jm_c S 213 [.ref r0, .ref (jm_R H r0 41), .int ((20 : Int32) * x1)] H (fun v G => jm_w S 10 215 32 [.ref r0, .int x1] (v.toList ++ []) G Q) := (js1 at215_20 rfl rfl rfl).trans ((js1 at215_21 rfl rfl rfl).trans ((jsgR (H := H) at215_22 rv215g_85 rfl h0 h1 rfl).trans ((jscb at215_25 rfl rfl).trans ((js1 at215_27 rfl rfl rfl).trans ((js0 at215_28 rfl rfl rfl).trans (jscall (H := H) (as := [.ref r0, .ref (jm_R H r0 41), .int ((20 : Int32) * x1)]) (q := []) at215_29 rfl rv215i_296 (jscutV rfl rfl rfl (Nat.le_of_ble_eq_true rfl) rfl h0) rfl (Nat.le_of_ble_eq_true rfl) rfl rfl))))))
theorem at215_32 : jm_at 215 32 = some (.aload_n 0) := rfl
theorem at215_33 : jm_at 215 33 = some (.iconst 0) := rfl
theorem at215_34 : jm_at 215 34 = some (.putfield 206) := rfl
theorem rv215p_206 : jm_rv 215 (.putfield 206) = (0, 12, 40, 0) := rfl
theorem at215_37 : jm_at 215 37 = some (.iconst 1) := rfl
theorem at215_38 : jm_at 215 38 = some (.ireturn) := rfl
theorem u215_32 {S : Option (Nat × (Nat → Int32))} {H : jm_H} {Q : Option Value → jm_H → Prop} {r0 : Nat} {x1 : Int32} (h0 : jm_tg H r0 = 13) : jm_w S 10 215 32 [.ref r0, .int x1] [] H Q = Q (some (.int (1 : Int32))) (jm_pI H r0 40 (0 : Int32)) := (js1 at215_32 rfl rfl rfl).trans ((jsci at215_33 rfl rfl).trans ((jspI (H := H) at215_34 rv215p_206 rfl h0 rfl).trans ((jsci at215_37 rfl rfl).trans (jsret_z at215_38 rfl (by decide)))))
theorem en215 {S : Option (Nat × (Nat → Int32))} {H : jm_H} {Q : Option Value → jm_H → Prop} {r0 : Nat} {x1 : Int32} : jm_c S 215 [.ref r0, .int x1] H Q = jm_w S 10 215 0 [.ref r0, .int x1] [] H Q := rfl
theorem at216_0 : jm_at 216 0 = some (.iload_n 1) := rfl
theorem at216_1 : jm_at 216 1 = some (.iload_n 2) := rfl
theorem at216_2 : jm_at 216 2 = some (.invokestatic 290) := rfl
theorem rv216i_290 : jm_rv 216 (.invokestatic 290) = (1, 217, 0, 0) := rfl
theorem u216_0 {S : Option (Nat × (Nat → Int32))} {H : jm_H} {Q : Option Value → jm_H → Prop} {r0 : Nat} {x1 x2 : Int32} : jm_w S 9 216 0 [.ref r0, .int x1, .int x2] [] H Q = jm_c S 217 [.int x1, .int x2] H (fun v G => jm_w S 9 216 5 [.ref r0, .int x1, .int x2] (v.toList ++ []) G Q) := (js1 at216_0 rfl rfl rfl).trans ((js1 at216_1 rfl rfl rfl).trans (jscall (H := H) (as := [.int x1, .int x2]) (q := []) at216_2 rfl rv216i_290 (jscut rfl rfl rfl (Nat.le_of_ble_eq_true rfl)) rfl (Nat.le_of_ble_eq_true rfl) rfl rfl))
theorem at216_5 : jm_at 216 5 = some (.ifCond .eq 23) := rfl
theorem u216_5 {S : Option (Nat × (Nat → Int32))} {H : jm_H} {Q : Option Value → jm_H → Prop} {r0 : Nat} {x1 x2 p0 : Int32} : jm_w S 9 216 5 [.ref r0, .int x1, .int x2] [.int p0] H Q = if p0 = 0 then jm_w S 9 216 28 [.ref r0, .int x1, .int x2] [] H Q else jm_w S 9 216 8 [.ref r0, .int x1, .int x2] [] H Q := jsif (P := p0 = 0) at216_5 rfl rfl
theorem at216_8 : jm_at 216 8 = some (.iload_n 1) := rfl
theorem at216_9 : jm_at 216 9 = some (.aload_n 0) := rfl
theorem at216_10 : jm_at 216 10 = some (.getfield 40) := rfl
theorem rv216g_40 : jm_rv 216 (.getfield 40) = (0, 12, 17, 0) := rfl
theorem at216_13 : jm_at 216 13 = some (.iconst 0) := rfl
theorem at216_14 : jm_at 216 14 = some (.iaload) := rfl
theorem at216_15 : jm_at 216 15 = some (.if_icmp .ne 15) := rfl
theorem u216_8 {S : Option (Nat × (Nat → Int32))} {H : jm_H} {Q : Option Value → jm_H → Prop} {r0 : Nat} {x1 x2 : Int32} (h0 : jm_tg H r0 = 13) (h1 : ¬ jm_R H r0 17 = 0) (h2 : ¬ ((0 : Int32) < 0 ∨ jm_ln H (jm_R H r0 17) ≤ Int32.toNatClampNeg (0 : Int32))) (h3 : ¬ (jm_R H r0 17) = 1) (h4 : jm_tg H (jm_R H r0 17) = 100) : jm_w S 9 216 8 [.ref r0, .int x1, .int x2] [] H Q = if ¬ x1 = (jm_I H (jm_R H r0 17) (Int32.toNatClampNeg (0 : Int32))) then jm_w S 9 216 30 [.ref r0, .int x1, .int x2] [] H Q else jm_w S 9 216 18 [.ref r0, .int x1, .int x2] [] H Q := (js1 at216_8 rfl rfl rfl).trans ((js1 at216_9 rfl rfl rfl).trans ((jsgR (H := H) at216_10 rv216g_40 rfl h0 h1 rfl).trans ((jsci at216_13 rfl rfl).trans ((jsial (H := H) at216_14 h3 h4 h2 rfl).trans (jsif (P := ¬ x1 = (jm_I H (jm_R H r0 17) (Int32.toNatClampNeg (0 : Int32)))) at216_15 rfl rfl)))))
theorem at216_18 : jm_at 216 18 = some (.iload_n 2) := rfl
theorem at216_19 : jm_at 216 19 = some (.aload_n 0) := rfl
theorem at216_20 : jm_at 216 20 = some (.getfield 40) := rfl
theorem at216_23 : jm_at 216 23 = some (.iconst 1) := rfl
theorem at216_24 : jm_at 216 24 = some (.iaload) := rfl
theorem at216_25 : jm_at 216 25 = some (.if_icmp .ne 5) := rfl
theorem u216_18 {S : Option (Nat × (Nat → Int32))} {H : jm_H} {Q : Option Value → jm_H → Prop} {r0 : Nat} {x1 x2 : Int32} (h0 : jm_tg H r0 = 13) (h1 : ¬ jm_R H r0 17 = 0) (h2 : ¬ ((1 : Int32) < 0 ∨ jm_ln H (jm_R H r0 17) ≤ Int32.toNatClampNeg (1 : Int32))) (h3 : ¬ (jm_R H r0 17) = 1) (h4 : jm_tg H (jm_R H r0 17) = 100) : jm_w S 9 216 18 [.ref r0, .int x1, .int x2] [] H Q = if ¬ x2 = (jm_I H (jm_R H r0 17) (Int32.toNatClampNeg (1 : Int32))) then jm_w S 9 216 30 [.ref r0, .int x1, .int x2] [] H Q else jm_w S 9 216 28 [.ref r0, .int x1, .int x2] [] H Q := (js1 at216_18 rfl rfl rfl).trans ((js1 at216_19 rfl rfl rfl).trans ((jsgR (H := H) at216_20 rv216g_40 rfl h0 h1 rfl).trans ((jsci at216_23 rfl rfl).trans ((jsial (H := H) at216_24 h3 h4 h2 rfl).trans (jsif (P := ¬ x2 = (jm_I H (jm_R H r0 17) (Int32.toNatClampNeg (1 : Int32)))) at216_25 rfl rfl)))))
theorem at216_28 : jm_at 216 28 = some (.iconst 0) := rfl
theorem at216_29 : jm_at 216 29 = some (.ireturn) := rfl
theorem u216_28 {S : Option (Nat × (Nat → Int32))} {H : jm_H} {Q : Option Value → jm_H → Prop} {r0 : Nat} {x1 x2 : Int32} : jm_w S 9 216 28 [.ref r0, .int x1, .int x2] [] H Q = Q (some (.int (0 : Int32))) H := (jsci at216_28 rfl rfl).trans (jsret_z at216_29 rfl (by decide))
theorem at216_30 : jm_at 216 30 = some (.aload_n 0) := rfl
theorem at216_31 : jm_at 216 31 = some (.invokevirtual 299) := rfl
theorem rv216i_299 : jm_rv 216 (.invokevirtual 299) = (2, 218, 0, 0) := rfl
theorem u216_30 {S : Option (Nat × (Nat → Int32))} {H : jm_H} {Q : Option Value → jm_H → Prop} {r0 : Nat} {x1 x2 : Int32} (h0 : jm_tg H r0 = 13) : jm_w S 9 216 30 [.ref r0, .int x1, .int x2] [] H Q = jm_c S 218 [.ref r0] H (fun v G => jm_w S 9 216 34 [.ref r0, .int x1, .int x2] (v.toList ++ []) G Q) := (js1 at216_30 rfl rfl rfl).trans (jscall (H := H) (as := [.ref r0]) (q := []) at216_31 rfl rv216i_299 (jscutV rfl rfl rfl (Nat.le_of_ble_eq_true rfl) rfl h0) rfl (Nat.le_of_ble_eq_true rfl) rfl rfl)
theorem at216_34 : jm_at 216 34 = some (.aload_n 0) := rfl
theorem at216_35 : jm_at 216 35 = some (.getfield 40) := rfl
theorem at216_38 : jm_at 216 38 = some (.iconst 0) := rfl
theorem at216_39 : jm_at 216 39 = some (.iload_n 1) := rfl
theorem at216_40 : jm_at 216 40 = some (.iastore) := rfl
theorem at216_41 : jm_at 216 41 = some (.aload_n 0) := rfl
theorem at216_42 : jm_at 216 42 = some (.getfield 40) := rfl
theorem at216_45 : jm_at 216 45 = some (.iconst 1) := rfl
theorem at216_46 : jm_at 216 46 = some (.iload_n 2) := rfl
theorem at216_47 : jm_at 216 47 = some (.iastore) := rfl
theorem at216_48 : jm_at 216 48 = some (.aload_n 0) := rfl
theorem at216_49 : jm_at 216 49 = some (.invokevirtual 203) := rfl
theorem rv216i_203 : jm_rv 216 (.invokevirtual 203) = (2, 186, 0, 0) := rfl
theorem u216_34 {S : Option (Nat × (Nat → Int32))} {H : jm_H} {Q : Option Value → jm_H → Prop} {r0 : Nat} {x1 x2 : Int32} (h0 : jm_tg H r0 = 13) (h1 : ¬ jm_R H r0 17 = 0) (h2 : ¬ ((0 : Int32) < 0 ∨ jm_ln H (jm_R H r0 17) ≤ Int32.toNatClampNeg (0 : Int32))) (h3 : jm_tg H (jm_R H r0 17) = 100) (h4 : ¬ ((1 : Int32) < 0 ∨ jm_ln H (jm_R H r0 17) ≤ Int32.toNatClampNeg (1 : Int32))) : jm_w S 9 216 34 [.ref r0, .int x1, .int x2] [] H Q = jm_c S 186 [.ref r0] (jm_pI (jm_pI H (jm_R H r0 17) (Int32.toNatClampNeg (0 : Int32)) x1) (jm_R H r0 17) (Int32.toNatClampNeg (1 : Int32)) x2) (fun v G => jm_w S 9 216 52 [.ref r0, .int x1, .int x2] (v.toList ++ []) G Q) := (js1 at216_34 rfl rfl rfl).trans ((jsgR (H := H) at216_35 rv216g_40 rfl h0 h1 rfl).trans ((jsci at216_38 rfl rfl).trans ((js1 at216_39 rfl rfl rfl).trans ((jsias (H := H) at216_40 h3 h2 rfl).trans ((js1 at216_41 rfl rfl rfl).trans ((jsgR (H := (jm_pI H (jm_R H r0 17) (Int32.toNatClampNeg (0 : Int32)) x1)) at216_42 rv216g_40 rfl h0 h1 rfl).trans ((jsci at216_45 rfl rfl).trans ((js1 at216_46 rfl rfl rfl).trans ((jsias (H := (jm_pI H (jm_R H r0 17) (Int32.toNatClampNeg (0 : Int32)) x1)) at216_47 h3 h4 rfl).trans ((js1 at216_48 rfl rfl rfl).trans (jscall (H := (jm_pI (jm_pI H (jm_R H r0 17) (Int32.toNatClampNeg (0 : Int32)) x1) (jm_R H r0 17) (Int32.toNatClampNeg (1 : Int32)) x2)) (as := [.ref r0]) (q := []) at216_49 rfl rv216i_203 (jscutV rfl rfl rfl (Nat.le_of_ble_eq_true rfl) rfl h0) rfl (Nat.le_of_ble_eq_true rfl) rfl rfl)))))))))))
theorem at216_52 : jm_at 216 52 = some (.iconst 1) := rfl
theorem at216_53 : jm_at 216 53 = some (.ireturn) := rfl
theorem u216_52 {S : Option (Nat × (Nat → Int32))} {H : jm_H} {Q : Option Value → jm_H → Prop} {r0 : Nat} {x1 x2 : Int32} : jm_w S 9 216 52 [.ref r0, .int x1, .int x2] [] H Q = Q (some (.int (1 : Int32))) H := (jsci at216_52 rfl rfl).trans (jsret_z at216_53 rfl (by decide))
theorem en216 {S : Option (Nat × (Nat → Int32))} {H : jm_H} {Q : Option Value → jm_H → Prop} {r0 : Nat} {x1 x2 : Int32} : jm_c S 216 [.ref r0, .int x1, .int x2] H Q = jm_w S 9 216 0 [.ref r0, .int x1, .int x2] [] H Q := rfl
theorem at217_0 : jm_at 217 0 = some (.iload_n 0) := rfl
theorem at217_1 : jm_at 217 1 = some (.iconst 3) := rfl
theorem at217_2 : jm_at 217 2 = some (.bipush 12) := rfl
theorem at217_4 : jm_at 217 4 = some (.invokestatic 218) := rfl
theorem rv217i_218 : jm_rv 217 (.invokestatic 218) = (1, 176, 0, 0) := rfl
theorem u217_0 {S : Option (Nat × (Nat → Int32))} {H : jm_H} {Q : Option Value → jm_H → Prop} {x0 x1 : Int32} : jm_w S 2 217 0 [.int x0, .int x1] [] H Q = jm_c S 176 [.int x0, .int (3 : Int32), .int (12 : Int32)] H (fun v G => jm_w S 2 217 7 [.int x0, .int x1] (v.toList ++ []) G Q) := (js1 at217_0 rfl rfl rfl).trans ((jsci at217_1 rfl rfl).trans ((jscb at217_2 rfl rfl).trans (jscall (H := H) (as := [.int x0, .int (3 : Int32), .int (12 : Int32)]) (q := []) at217_4 rfl rv217i_218 (jscut rfl rfl rfl (Nat.le_of_ble_eq_true rfl)) rfl (Nat.le_of_ble_eq_true rfl) rfl rfl)))
theorem at217_7 : jm_at 217 7 = some (.ifCond .eq 16) := rfl
theorem u217_7 {S : Option (Nat × (Nat → Int32))} {H : jm_H} {Q : Option Value → jm_H → Prop} {x0 x1 p0 : Int32} : jm_w S 2 217 7 [.int x0, .int x1] [.int p0] H Q = if p0 = 0 then jm_w S 2 217 23 [.int x0, .int x1] [] H Q else jm_w S 2 217 10 [.int x0, .int x1] [] H Q := jsif (P := p0 = 0) at217_7 rfl rfl
theorem at217_10 : jm_at 217 10 = some (.iload_n 1) := rfl
theorem at217_11 : jm_at 217 11 = some (.iconst 0) := rfl
theorem at217_12 : jm_at 217 12 = some (.iconst 2) := rfl
theorem at217_13 : jm_at 217 13 = some (.invokestatic 218) := rfl
theorem u217_10 {S : Option (Nat × (Nat → Int32))} {H : jm_H} {Q : Option Value → jm_H → Prop} {x0 x1 : Int32} : jm_w S 2 217 10 [.int x0, .int x1] [] H Q = jm_c S 176 [.int x1, .int (0 : Int32), .int (2 : Int32)] H (fun v G => jm_w S 2 217 16 [.int x0, .int x1] (v.toList ++ []) G Q) := (js1 at217_10 rfl rfl rfl).trans ((jsci at217_11 rfl rfl).trans ((jsci at217_12 rfl rfl).trans (jscall (H := H) (as := [.int x1, .int (0 : Int32), .int (2 : Int32)]) (q := []) at217_13 rfl rv217i_218 (jscut rfl rfl rfl (Nat.le_of_ble_eq_true rfl)) rfl (Nat.le_of_ble_eq_true rfl) rfl rfl)))
theorem at217_16 : jm_at 217 16 = some (.ifCond .eq 7) := rfl
theorem u217_16 {S : Option (Nat × (Nat → Int32))} {H : jm_H} {Q : Option Value → jm_H → Prop} {x0 x1 p0 : Int32} : jm_w S 2 217 16 [.int x0, .int x1] [.int p0] H Q = if p0 = 0 then jm_w S 2 217 23 [.int x0, .int x1] [] H Q else jm_w S 2 217 19 [.int x0, .int x1] [] H Q := jsif (P := p0 = 0) at217_16 rfl rfl
theorem at217_19 : jm_at 217 19 = some (.iconst 1) := rfl
theorem at217_20 : jm_at 217 20 = some (.goto 4) := rfl
theorem u217_19 {S : Option (Nat × (Nat → Int32))} {H : jm_H} {Q : Option Value → jm_H → Prop} {x0 x1 : Int32} : jm_w S 2 217 19 [.int x0, .int x1] [] H Q = jm_w S 2 217 24 [.int x0, .int x1] [.int (1 : Int32)] H Q := (jsci at217_19 rfl rfl).trans (js2 at217_20 rfl rfl)
theorem at217_23 : jm_at 217 23 = some (.iconst 0) := rfl
theorem u217_23 {S : Option (Nat × (Nat → Int32))} {H : jm_H} {Q : Option Value → jm_H → Prop} {x0 x1 : Int32} : jm_w S 2 217 23 [.int x0, .int x1] [] H Q = jm_w S 2 217 24 [.int x0, .int x1] [.int (0 : Int32)] H Q := jsci at217_23 rfl rfl
theorem at217_24 : jm_at 217 24 = some (.ireturn) := rfl
theorem u217_24 {S : Option (Nat × (Nat → Int32))} {H : jm_H} {Q : Option Value → jm_H → Prop} {x0 x1 p0 : Int32} (h0 : p0 = 0 ∨ p0 = 1) : jm_w S 2 217 24 [.int x0, .int x1] [.int p0] H Q = Q (some (.int p0)) H := jsret_z at217_24 rfl h0
theorem en217 {S : Option (Nat × (Nat → Int32))} {H : jm_H} {Q : Option Value → jm_H → Prop} {x0 x1 : Int32} : jm_c S 217 [.int x0, .int x1] H Q = jm_w S 2 217 0 [.int x0, .int x1] [] H Q := rfl
theorem at218_0 : jm_at 218 0 = some (.aload_n 0) := rfl
theorem at218_1 : jm_at 218 1 = some (.getfield 206) := rfl
theorem rv218g_206 : jm_rv 218 (.getfield 206) = (0, 12, 40, 0) := rfl
theorem at218_4 : jm_at 218 4 = some (.bipush 40) := rfl
theorem at218_6 : jm_at 218 6 = some (.if_icmp .ne 26) := rfl
theorem u218_0 {S : Option (Nat × (Nat → Int32))} {H : jm_H} {Q : Option Value → jm_H → Prop} {r0 : Nat} (h0 : jm_tg H r0 = 13) : jm_w S 1 218 0 [.ref r0, .null, .null] [] H Q = if ¬ (jm_I H r0 40) = (40 : Int32) then jm_w S 1 218 32 [.ref r0, .null, .null] [] H Q else jm_w S 1 218 9 [.ref r0, .null, .null] [] H Q := (js1 at218_0 rfl rfl rfl).trans ((jsgI (H := H) at218_1 rv218g_206 (Or.inl rfl) h0 rfl).trans ((jscb at218_4 rfl rfl).trans (jsif (P := ¬ (jm_I H r0 40) = (40 : Int32)) at218_6 rfl rfl)))
theorem at218_9 : jm_at 218 9 = some (.aload_n 0) := rfl
theorem at218_10 : jm_at 218 10 = some (.aload_n 0) := rfl
theorem at218_11 : jm_at 218 11 = some (.getfield 293) := rfl
theorem rv218g_293 : jm_rv 218 (.getfield 293) = (0, 12, 39, 0) := rfl
theorem at218_14 : jm_at 218 14 = some (.iconst 1) := rfl
theorem at218_15 : jm_at 218 15 = some (.iadd) := rfl
theorem at218_16 : jm_at 218 16 = some (.bipush 40) := rfl
theorem at218_18 : jm_at 218 18 = some (.irem) := rfl
theorem at218_19 : jm_at 218 19 = some (.putfield 293) := rfl
theorem rv218p_293 : jm_rv 218 (.putfield 293) = (0, 12, 39, 0) := rfl
theorem at218_22 : jm_at 218 22 = some (.aload_n 0) := rfl
theorem at218_23 : jm_at 218 23 = some (.dup) := rfl
theorem at218_24 : jm_at 218 24 = some (.getfield 206) := rfl
theorem at218_27 : jm_at 218 27 = some (.iconst 1) := rfl
theorem at218_28 : jm_at 218 28 = some (.isub) := rfl
theorem at218_29 : jm_at 218 29 = some (.putfield 206) := rfl
theorem rv218p_206 : jm_rv 218 (.putfield 206) = (0, 12, 40, 0) := rfl
theorem u218_9 {S : Option (Nat × (Nat → Int32))} {H : jm_H} {Q : Option Value → jm_H → Prop} {r0 : Nat} (h0 : jm_tg H r0 = 13) : jm_w S 1 218 9 [.ref r0, .null, .null] [] H Q = jm_w S 1 218 32 [.ref r0, .null, .null] [] (jm_pI (jm_pI H r0 39 (((jm_I H r0 39) + (1 : Int32)) - ((jm_I H r0 39) + (1 : Int32)) / (40 : Int32) * (40 : Int32))) r0 40 ((jm_I (jm_pI H r0 39 (((jm_I H r0 39) + (1 : Int32)) - ((jm_I H r0 39) + (1 : Int32)) / (40 : Int32) * (40 : Int32))) r0 40) - (1 : Int32))) Q := (js1 at218_9 rfl rfl rfl).trans ((js1 at218_10 rfl rfl rfl).trans ((jsgI (H := H) at218_11 rv218g_293 (Or.inl rfl) h0 rfl).trans ((jsci at218_14 rfl rfl).trans ((js0 at218_15 rfl rfl rfl).trans ((jscb at218_16 rfl rfl).trans ((jsirem at218_18 (by decide) rfl).trans ((jspI (H := H) at218_19 rv218p_293 rfl h0 rfl).trans ((js1 at218_22 rfl rfl rfl).trans ((js0 at218_23 rfl rfl rfl).trans ((jsgI (H := (jm_pI H r0 39 (((jm_I H r0 39) + (1 : Int32)) - ((jm_I H r0 39) + (1 : Int32)) / (40 : Int32) * (40 : Int32)))) at218_24 rv218g_206 (Or.inl rfl) h0 rfl).trans ((jsci at218_27 rfl rfl).trans ((js0 at218_28 rfl rfl rfl).trans (jspI (H := (jm_pI H r0 39 (((jm_I H r0 39) + (1 : Int32)) - ((jm_I H r0 39) + (1 : Int32)) / (40 : Int32) * (40 : Int32)))) at218_29 rv218p_206 rfl h0 rfl)))))))))))))
theorem at218_32 : jm_at 218 32 = some (.bipush 20) := rfl
theorem at218_34 : jm_at 218 34 = some (.aload_n 0) := rfl
theorem at218_35 : jm_at 218 35 = some (.getfield 293) := rfl
theorem at218_38 : jm_at 218 38 = some (.aload_n 0) := rfl
theorem at218_39 : jm_at 218 39 = some (.getfield 206) := rfl
theorem at218_42 : jm_at 218 42 = some (.iadd) := rfl
theorem at218_43 : jm_at 218 43 = some (.bipush 40) := rfl
theorem at218_45 : jm_at 218 45 = some (.irem) := rfl
theorem at218_46 : jm_at 218 46 = some (.imul) := rfl
theorem at218_47 : jm_at 218 47 = some (.istore_n 1) := rfl
theorem at218_48 : jm_at 218 48 = some (.iconst 0) := rfl
theorem at218_49 : jm_at 218 49 = some (.istore_n 2) := rfl
theorem u218_32 {S : Option (Nat × (Nat → Int32))} {H : jm_H} {Q : Option Value → jm_H → Prop} {r0 : Nat} (h0 : jm_tg H r0 = 13) : jm_w S 1 218 32 [.ref r0, .null, .null] [] H Q = jm_w S 1 218 50 [.ref r0, .int ((20 : Int32) * (((jm_I H r0 39) + (jm_I H r0 40)) - ((jm_I H r0 39) + (jm_I H r0 40)) / (40 : Int32) * (40 : Int32))), .int (0 : Int32)] [] H Q := (jscb at218_32 rfl rfl).trans ((js1 at218_34 rfl rfl rfl).trans ((jsgI (H := H) at218_35 rv218g_293 (Or.inl rfl) h0 rfl).trans ((js1 at218_38 rfl rfl rfl).trans ((jsgI (H := H) at218_39 rv218g_206 (Or.inl rfl) h0 rfl).trans ((js0 at218_42 rfl rfl rfl).trans ((jscb at218_43 rfl rfl).trans ((jsirem at218_45 (by decide) rfl).trans ((js0 at218_46 rfl rfl rfl).trans ((js1 at218_47 rfl rfl rfl).trans ((jsci at218_48 rfl rfl).trans (js1 at218_49 rfl rfl rfl)))))))))))
theorem at218_50 : jm_at 218 50 = some (.iload_n 2) := rfl
theorem at218_51 : jm_at 218 51 = some (.bipush 20) := rfl
theorem at218_53 : jm_at 218 53 = some (.if_icmp .ge 23) := rfl
theorem u218_50 {S : Option (Nat × (Nat → Int32))} {H : jm_H} {Q : Option Value → jm_H → Prop} {r0 : Nat} {x1 x2 : Int32} : jm_w S 1 218 50 [.ref r0, .int x1, .int x2] [] H Q = if (20 : Int32) ≤ x2 then jm_w S 1 218 76 [.ref r0, .int x1, .int x2] [] H Q else jm_w S 1 218 56 [.ref r0, .int x1, .int x2] [] H Q := (js1 at218_50 rfl rfl rfl).trans ((jscb at218_51 rfl rfl).trans (jsif (P := (20 : Int32) ≤ x2) at218_53 rfl rfl))
theorem at218_56 : jm_at 218 56 = some (.aload_n 0) := rfl
theorem at218_57 : jm_at 218 57 = some (.getfield 82) := rfl
theorem rv218g_82 : jm_rv 218 (.getfield 82) = (0, 12, 38, 0) := rfl
theorem at218_60 : jm_at 218 60 = some (.iload_n 1) := rfl
theorem at218_61 : jm_at 218 61 = some (.iload_n 2) := rfl
theorem at218_62 : jm_at 218 62 = some (.iadd) := rfl
theorem at218_63 : jm_at 218 63 = some (.aload_n 0) := rfl
theorem at218_64 : jm_at 218 64 = some (.getfield 40) := rfl
theorem rv218g_40 : jm_rv 218 (.getfield 40) = (0, 12, 17, 0) := rfl
theorem at218_67 : jm_at 218 67 = some (.iload_n 2) := rfl
theorem at218_68 : jm_at 218 68 = some (.iaload) := rfl
theorem at218_69 : jm_at 218 69 = some (.iastore) := rfl
theorem at218_70 : jm_at 218 70 = some (.iinc 2 1) := rfl
theorem at218_73 : jm_at 218 73 = some (.goto (-23)) := rfl
theorem u218_56 {S : Option (Nat × (Nat → Int32))} {H : jm_H} {Q : Option Value → jm_H → Prop} {r0 : Nat} {x1 x2 : Int32} (h0 : jm_tg H r0 = 13) (h1 : ¬ jm_R H r0 38 = 0) (h2 : ¬ jm_R H r0 17 = 0) (h3 : ¬ (x2 < 0 ∨ jm_ln H (jm_R H r0 17) ≤ Int32.toNatClampNeg x2)) (h4 : ¬ (jm_R H r0 17) = 1) (h5 : jm_tg H (jm_R H r0 17) = 100) (h6 : ¬ ((x1 + x2) < 0 ∨ jm_ln H (jm_R H r0 38) ≤ Int32.toNatClampNeg (x1 + x2))) (h7 : jm_tg H (jm_R H r0 38) = 100) : jm_w S 1 218 56 [.ref r0, .int x1, .int x2] [] H Q = jm_w S 1 218 50 [.ref r0, .int x1, .int (x2 + 1)] [] (jm_pI H (jm_R H r0 38) (Int32.toNatClampNeg (x1 + x2)) (jm_I H (jm_R H r0 17) (Int32.toNatClampNeg x2))) Q := (js1 at218_56 rfl rfl rfl).trans ((jsgR (H := H) at218_57 rv218g_82 rfl h0 h1 rfl).trans ((js1 at218_60 rfl rfl rfl).trans ((js1 at218_61 rfl rfl rfl).trans ((js0 at218_62 rfl rfl rfl).trans ((js1 at218_63 rfl rfl rfl).trans ((jsgR (H := H) at218_64 rv218g_40 rfl h0 h2 rfl).trans ((js1 at218_67 rfl rfl rfl).trans ((jsial (H := H) at218_68 h4 h5 h3 rfl).trans ((jsias (H := H) at218_69 h7 h6 rfl).trans ((jsinc at218_70 rfl rfl rfl).trans (js2 at218_73 rfl rfl)))))))))))
theorem at218_76 : jm_at 218 76 = some (.aload_n 0) := rfl
theorem at218_77 : jm_at 218 77 = some (.dup) := rfl
theorem at218_78 : jm_at 218 78 = some (.getfield 206) := rfl
theorem at218_81 : jm_at 218 81 = some (.iconst 1) := rfl
theorem at218_82 : jm_at 218 82 = some (.iadd) := rfl
theorem at218_83 : jm_at 218 83 = some (.putfield 206) := rfl
theorem at218_86 : jm_at 218 86 = some (.return_) := rfl
theorem u218_76 {S : Option (Nat × (Nat → Int32))} {H : jm_H} {Q : Option Value → jm_H → Prop} {r0 : Nat} {x1 x2 : Int32} (h0 : jm_tg H r0 = 13) : jm_w S 1 218 76 [.ref r0, .int x1, .int x2] [] H Q = Q none (jm_pI H r0 40 ((jm_I H r0 40) + (1 : Int32))) := (js1 at218_76 rfl rfl rfl).trans ((js0 at218_77 rfl rfl rfl).trans ((jsgI (H := H) at218_78 rv218g_206 (Or.inl rfl) h0 rfl).trans ((jsci at218_81 rfl rfl).trans ((js0 at218_82 rfl rfl rfl).trans ((jspI (H := H) at218_83 rv218p_206 rfl h0 rfl).trans (jsret_v at218_86 rfl))))))
theorem en218 {S : Option (Nat × (Nat → Int32))} {H : jm_H} {Q : Option Value → jm_H → Prop} {r0 : Nat} : jm_c S 218 [.ref r0] H Q = jm_w S 1 218 0 [.ref r0, .null, .null] [] H Q := rfl
theorem at219_0 : jm_at 219 0 = some (.aload_n 0) := rfl
theorem at219_1 : jm_at 219 1 = some (.getfield 40) := rfl
theorem rv219g_40 : jm_rv 219 (.getfield 40) = (0, 12, 17, 0) := rfl
theorem at219_4 : jm_at 219 4 = some (.iconst 0) := rfl
theorem at219_5 : jm_at 219 5 = some (.iaload) := rfl
theorem at219_6 : jm_at 219 6 = some (.istore 4) := rfl
theorem at219_8 : jm_at 219 8 = some (.iload 4) := rfl
theorem at219_10 : jm_at 219 10 = some (.aload_n 0) := rfl
theorem at219_11 : jm_at 219 11 = some (.getfield 40) := rfl
theorem at219_14 : jm_at 219 14 = some (.iconst 1) := rfl
theorem at219_15 : jm_at 219 15 = some (.iaload) := rfl
theorem at219_16 : jm_at 219 16 = some (.iload_n 1) := rfl
theorem at219_17 : jm_at 219 17 = some (.invokestatic 302) := rfl
theorem rv219i_302 : jm_rv 219 (.invokestatic 302) = (1, 220, 0, 0) := rfl
theorem u219_0 {S : Option (Nat × (Nat → Int32))} {H : jm_H} {Q : Option Value → jm_H → Prop} {r0 : Nat} {x1 x2 x3 : Int32} (h0 : jm_tg H r0 = 13) (h1 : ¬ jm_R H r0 17 = 0) (h2 : ¬ ((0 : Int32) < 0 ∨ jm_ln H (jm_R H r0 17) ≤ Int32.toNatClampNeg (0 : Int32))) (h3 : ¬ (jm_R H r0 17) = 1) (h4 : jm_tg H (jm_R H r0 17) = 100) (h5 : ¬ ((1 : Int32) < 0 ∨ jm_ln H (jm_R H r0 17) ≤ Int32.toNatClampNeg (1 : Int32))) : jm_w S 5 219 0 [.ref r0, .int x1, .int x2, .int x3, .null, .null] [] H Q = jm_c S 220 [.int (jm_I H (jm_R H r0 17) (Int32.toNatClampNeg (0 : Int32))), .int (jm_I H (jm_R H r0 17) (Int32.toNatClampNeg (1 : Int32))), .int x1] H (fun v G => jm_w S 5 219 20 [.ref r0, .int x1, .int x2, .int x3, .int (jm_I H (jm_R H r0 17) (Int32.toNatClampNeg (0 : Int32))), .null] (v.toList ++ []) G Q) := (js1 at219_0 rfl rfl rfl).trans ((jsgR (H := H) at219_1 rv219g_40 rfl h0 h1 rfl).trans ((jsci at219_4 rfl rfl).trans ((jsial (H := H) at219_5 h3 h4 h2 rfl).trans ((js1 at219_6 rfl rfl rfl).trans ((js1 at219_8 rfl rfl rfl).trans ((js1 at219_10 rfl rfl rfl).trans ((jsgR (H := H) at219_11 rv219g_40 rfl h0 h1 rfl).trans ((jsci at219_14 rfl rfl).trans ((jsial (H := H) at219_15 h3 h4 h5 rfl).trans ((js1 at219_16 rfl rfl rfl).trans (jscall (H := H) (as := [.int (jm_I H (jm_R H r0 17) (Int32.toNatClampNeg (0 : Int32))), .int (jm_I H (jm_R H r0 17) (Int32.toNatClampNeg (1 : Int32))), .int x1]) (q := []) at219_17 rfl rv219i_302 (jscut rfl rfl rfl (Nat.le_of_ble_eq_true rfl)) rfl (Nat.le_of_ble_eq_true rfl) rfl rfl)))))))))))
theorem at219_20 : jm_at 219 20 = some (.ifCond .eq 18) := rfl
theorem u219_20 {S : Option (Nat × (Nat → Int32))} {H : jm_H} {Q : Option Value → jm_H → Prop} {r0 : Nat} {x1 x2 x3 x4 p0 : Int32} : jm_w S 5 219 20 [.ref r0, .int x1, .int x2, .int x3, .int x4, .null] [.int p0] H Q = if p0 = 0 then jm_w S 5 219 38 [.ref r0, .int x1, .int x2, .int x3, .int x4, .null] [] H Q else jm_w S 5 219 23 [.ref r0, .int x1, .int x2, .int x3, .int x4, .null] [] H Q := jsif (P := p0 = 0) at219_20 rfl rfl
theorem at219_23 : jm_at 219 23 = some (.iload 4) := rfl
theorem at219_25 : jm_at 219 25 = some (.aload_n 0) := rfl
theorem at219_26 : jm_at 219 26 = some (.getfield 40) := rfl
theorem at219_29 : jm_at 219 29 = some (.iconst 1) := rfl
theorem at219_30 : jm_at 219 30 = some (.iaload) := rfl
theorem at219_31 : jm_at 219 31 = some (.iload_n 2) := rfl
theorem at219_32 : jm_at 219 32 = some (.invokestatic 302) := rfl
theorem u219_23 {S : Option (Nat × (Nat → Int32))} {H : jm_H} {Q : Option Value → jm_H → Prop} {r0 : Nat} {x1 x2 x3 x4 : Int32} (h0 : jm_tg H r0 = 13) (h1 : ¬ jm_R H r0 17 = 0) (h2 : ¬ ((1 : Int32) < 0 ∨ jm_ln H (jm_R H r0 17) ≤ Int32.toNatClampNeg (1 : Int32))) (h3 : ¬ (jm_R H r0 17) = 1) (h4 : jm_tg H (jm_R H r0 17) = 100) : jm_w S 5 219 23 [.ref r0, .int x1, .int x2, .int x3, .int x4, .null] [] H Q = jm_c S 220 [.int x4, .int (jm_I H (jm_R H r0 17) (Int32.toNatClampNeg (1 : Int32))), .int x2] H (fun v G => jm_w S 5 219 35 [.ref r0, .int x1, .int x2, .int x3, .int x4, .null] (v.toList ++ []) G Q) := (js1 at219_23 rfl rfl rfl).trans ((js1 at219_25 rfl rfl rfl).trans ((jsgR (H := H) at219_26 rv219g_40 rfl h0 h1 rfl).trans ((jsci at219_29 rfl rfl).trans ((jsial (H := H) at219_30 h3 h4 h2 rfl).trans ((js1 at219_31 rfl rfl rfl).trans (jscall (H := H) (as := [.int x4, .int (jm_I H (jm_R H r0 17) (Int32.toNatClampNeg (1 : Int32))), .int x2]) (q := []) at219_32 rfl rv219i_302 (jscut rfl rfl rfl (Nat.le_of_ble_eq_true rfl)) rfl (Nat.le_of_ble_eq_true rfl) rfl rfl))))))
theorem at219_35 : jm_at 219 35 = some (.ifCond .ne 5) := rfl
theorem u219_35 {S : Option (Nat × (Nat → Int32))} {H : jm_H} {Q : Option Value → jm_H → Prop} {r0 : Nat} {x1 x2 x3 x4 p0 : Int32} : jm_w S 5 219 35 [.ref r0, .int x1, .int x2, .int x3, .int x4, .null] [.int p0] H Q = if ¬ p0 = 0 then jm_w S 5 219 40 [.ref r0, .int x1, .int x2, .int x3, .int x4, .null] [] H Q else jm_w S 5 219 38 [.ref r0, .int x1, .int x2, .int x3, .int x4, .null] [] H Q := jsif (P := ¬ p0 = 0) at219_35 rfl rfl
theorem at219_38 : jm_at 219 38 = some (.iconst 0) := rfl
theorem at219_39 : jm_at 219 39 = some (.ireturn) := rfl
theorem u219_38 {S : Option (Nat × (Nat → Int32))} {H : jm_H} {Q : Option Value → jm_H → Prop} {r0 : Nat} {x1 x2 x3 x4 : Int32} : jm_w S 5 219 38 [.ref r0, .int x1, .int x2, .int x3, .int x4, .null] [] H Q = Q (some (.int (0 : Int32))) H := (jsci at219_38 rfl rfl).trans (jsret_z at219_39 rfl (by decide))
theorem at219_40 : jm_at 219 40 = some (.aload_n 0) := rfl
theorem at219_41 : jm_at 219 41 = some (.invokevirtual 299) := rfl
theorem rv219i_299 : jm_rv 219 (.invokevirtual 299) = (2, 218, 0, 0) := rfl
theorem u219_40 {S : Option (Nat × (Nat → Int32))} {H : jm_H} {Q : Option Value → jm_H → Prop} {r0 : Nat} {x1 x2 x3 x4 : Int32} (h0 : jm_tg H r0 = 13) : jm_w S 5 219 40 [.ref r0, .int x1, .int x2, .int x3, .int x4, .null] [] H Q = jm_c S 218 [.ref r0] H (fun v G => jm_w S 5 219 44 [.ref r0, .int x1, .int x2, .int x3, .int x4, .null] (v.toList ++ []) G Q) := (js1 at219_40 rfl rfl rfl).trans (jscall (H := H) (as := [.ref r0]) (q := []) at219_41 rfl rv219i_299 (jscutV rfl rfl rfl (Nat.le_of_ble_eq_true rfl) rfl h0) rfl (Nat.le_of_ble_eq_true rfl) rfl rfl)
theorem at219_44 : jm_at 219 44 = some (.iload 4) := rfl
theorem at219_46 : jm_at 219 46 = some (.iload_n 1) := rfl
theorem at219_47 : jm_at 219 47 = some (.invokestatic 276) := rfl
theorem rv219i_276 : jm_rv 219 (.invokestatic 276) = (1, 204, 0, 0) := rfl
theorem u219_44 {S : Option (Nat × (Nat → Int32))} {H : jm_H} {Q : Option Value → jm_H → Prop} {r0 : Nat} {x1 x2 x3 x4 : Int32} : jm_w S 5 219 44 [.ref r0, .int x1, .int x2, .int x3, .int x4, .null] [] H Q = jm_c S 204 [.int x4, .int x1] H (fun v G => jm_w S 5 219 50 [.ref r0, .int x1, .int x2, .int x3, .int x4, .null] (v.toList ++ []) G Q) := (js1 at219_44 rfl rfl rfl).trans ((js1 at219_46 rfl rfl rfl).trans (jscall (H := H) (as := [.int x4, .int x1]) (q := []) at219_47 rfl rv219i_276 (jscut rfl rfl rfl (Nat.le_of_ble_eq_true rfl)) rfl (Nat.le_of_ble_eq_true rfl) rfl rfl))
theorem at219_50 : jm_at 219 50 = some (.ifCond .ne 12) := rfl
theorem u219_50 {S : Option (Nat × (Nat → Int32))} {H : jm_H} {Q : Option Value → jm_H → Prop} {r0 : Nat} {x1 x2 x3 x4 p0 : Int32} : jm_w S 5 219 50 [.ref r0, .int x1, .int x2, .int x3, .int x4, .null] [.int p0] H Q = if ¬ p0 = 0 then jm_w S 5 219 62 [.ref r0, .int x1, .int x2, .int x3, .int x4, .null] [] H Q else jm_w S 5 219 53 [.ref r0, .int x1, .int x2, .int x3, .int x4, .null] [] H Q := jsif (P := ¬ p0 = 0) at219_50 rfl rfl
theorem at219_53 : jm_at 219 53 = some (.iload 4) := rfl
theorem at219_55 : jm_at 219 55 = some (.iload_n 2) := rfl
theorem at219_56 : jm_at 219 56 = some (.invokestatic 276) := rfl
theorem u219_53 {S : Option (Nat × (Nat → Int32))} {H : jm_H} {Q : Option Value → jm_H → Prop} {r0 : Nat} {x1 x2 x3 x4 : Int32} : jm_w S 5 219 53 [.ref r0, .int x1, .int x2, .int x3, .int x4, .null] [] H Q = jm_c S 204 [.int x4, .int x2] H (fun v G => jm_w S 5 219 59 [.ref r0, .int x1, .int x2, .int x3, .int x4, .null] (v.toList ++ []) G Q) := (js1 at219_53 rfl rfl rfl).trans ((js1 at219_55 rfl rfl rfl).trans (jscall (H := H) (as := [.int x4, .int x2]) (q := []) at219_56 rfl rv219i_276 (jscut rfl rfl rfl (Nat.le_of_ble_eq_true rfl)) rfl (Nat.le_of_ble_eq_true rfl) rfl rfl))
theorem at219_59 : jm_at 219 59 = some (.ifCond .eq 34) := rfl
theorem u219_59 {S : Option (Nat × (Nat → Int32))} {H : jm_H} {Q : Option Value → jm_H → Prop} {r0 : Nat} {x1 x2 x3 x4 p0 : Int32} : jm_w S 5 219 59 [.ref r0, .int x1, .int x2, .int x3, .int x4, .null] [.int p0] H Q = if p0 = 0 then jm_w S 5 219 93 [.ref r0, .int x1, .int x2, .int x3, .int x4, .null] [] H Q else jm_w S 5 219 62 [.ref r0, .int x1, .int x2, .int x3, .int x4, .null] [] H Q := jsif (P := p0 = 0) at219_59 rfl rfl
theorem at219_62 : jm_at 219 62 = some (.iconst 2) := rfl
theorem at219_63 : jm_at 219 63 = some (.istore 5) := rfl
theorem u219_62 {S : Option (Nat × (Nat → Int32))} {H : jm_H} {Q : Option Value → jm_H → Prop} {r0 : Nat} {x1 x2 x3 x4 : Int32} : jm_w S 5 219 62 [.ref r0, .int x1, .int x2, .int x3, .int x4, .null] [] H Q = jm_w S 5 219 65 [.ref r0, .int x1, .int x2, .int x3, .int x4, .int (2 : Int32)] [] H Q := (jsci at219_62 rfl rfl).trans (js1 at219_63 rfl rfl rfl)
theorem at219_65 : jm_at 219 65 = some (.iload 5) := rfl
theorem at219_67 : jm_at 219 67 = some (.bipush 20) := rfl
theorem at219_69 : jm_at 219 69 = some (.if_icmp .ge 17) := rfl
theorem u219_65 {S : Option (Nat × (Nat → Int32))} {H : jm_H} {Q : Option Value → jm_H → Prop} {r0 : Nat} {x1 x2 x3 x4 x5 : Int32} : jm_w S 5 219 65 [.ref r0, .int x1, .int x2, .int x3, .int x4, .int x5] [] H Q = if (20 : Int32) ≤ x5 then jm_w S 5 219 86 [.ref r0, .int x1, .int x2, .int x3, .int x4, .int x5] [] H Q else jm_w S 5 219 72 [.ref r0, .int x1, .int x2, .int x3, .int x4, .int x5] [] H Q := (js1 at219_65 rfl rfl rfl).trans ((jscb at219_67 rfl rfl).trans (jsif (P := (20 : Int32) ≤ x5) at219_69 rfl rfl))
theorem at219_72 : jm_at 219 72 = some (.aload_n 0) := rfl
theorem at219_73 : jm_at 219 73 = some (.getfield 40) := rfl
theorem at219_76 : jm_at 219 76 = some (.iload 5) := rfl
theorem at219_78 : jm_at 219 78 = some (.iconst 0) := rfl
theorem at219_79 : jm_at 219 79 = some (.iastore) := rfl
theorem at219_80 : jm_at 219 80 = some (.iinc 5 1) := rfl
theorem at219_83 : jm_at 219 83 = some (.goto (-18)) := rfl
theorem u219_72 {S : Option (Nat × (Nat → Int32))} {H : jm_H} {Q : Option Value → jm_H → Prop} {r0 : Nat} {x1 x2 x3 x4 x5 : Int32} (h0 : jm_tg H r0 = 13) (h1 : ¬ jm_R H r0 17 = 0) (h2 : ¬ (x5 < 0 ∨ jm_ln H (jm_R H r0 17) ≤ Int32.toNatClampNeg x5)) (h3 : jm_tg H (jm_R H r0 17) = 100) : jm_w S 5 219 72 [.ref r0, .int x1, .int x2, .int x3, .int x4, .int x5] [] H Q = jm_w S 5 219 65 [.ref r0, .int x1, .int x2, .int x3, .int x4, .int (x5 + 1)] [] (jm_pI H (jm_R H r0 17) (Int32.toNatClampNeg x5) (0 : Int32)) Q := (js1 at219_72 rfl rfl rfl).trans ((jsgR (H := H) at219_73 rv219g_40 rfl h0 h1 rfl).trans ((js1 at219_76 rfl rfl rfl).trans ((jsci at219_78 rfl rfl).trans ((jsias (H := H) at219_79 h3 h2 rfl).trans ((jsinc at219_80 rfl rfl rfl).trans (js2 at219_83 rfl rfl))))))
theorem at219_86 : jm_at 219 86 = some (.aload_n 0) := rfl
theorem at219_87 : jm_at 219 87 = some (.getfield 40) := rfl
theorem at219_90 : jm_at 219 90 = some (.iconst 3) := rfl
theorem at219_91 : jm_at 219 91 = some (.iconst 1) := rfl
theorem at219_92 : jm_at 219 92 = some (.iastore) := rfl
theorem u219_86 {S : Option (Nat × (Nat → Int32))} {H : jm_H} {Q : Option Value → jm_H → Prop} {r0 : Nat} {x1 x2 x3 x4 x5 : Int32} (h0 : jm_tg H r0 = 13) (h1 : ¬ jm_R H r0 17 = 0) (h2 : ¬ ((3 : Int32) < 0 ∨ jm_ln H (jm_R H r0 17) ≤ Int32.toNatClampNeg (3 : Int32))) (h3 : jm_tg H (jm_R H r0 17) = 100) : jm_w S 5 219 86 [.ref r0, .int x1, .int x2, .int x3, .int x4, .int x5] [] H Q = jm_w S 5 219 93 [.ref r0, .int x1, .int x2, .int x3, .int x4, .int x5] [] (jm_pI H (jm_R H r0 17) (Int32.toNatClampNeg (3 : Int32)) (1 : Int32)) Q := (js1 at219_86 rfl rfl rfl).trans ((jsgR (H := H) at219_87 rv219g_40 rfl h0 h1 rfl).trans ((jsci at219_90 rfl rfl).trans ((jsci at219_91 rfl rfl).trans (jsias (H := H) at219_92 h3 h2 rfl))))
theorem at219_93 : jm_at 219 93 = some (.aload_n 0) := rfl
theorem at219_94 : jm_at 219 94 = some (.getfield 40) := rfl
theorem at219_97 : jm_at 219 97 = some (.iconst 3) := rfl
theorem at219_98 : jm_at 219 98 = some (.iaload) := rfl
theorem at219_99 : jm_at 219 99 = some (.iconst 1) := rfl
theorem at219_100 : jm_at 219 100 = some (.if_icmp .ne 5) := rfl
theorem u219_93 {S : Option (Nat × (Nat → Int32))} {H : jm_H} {Q : Option Value → jm_H → Prop} {r0 : Nat} {x1 x2 x3 x4 : Int32} {w5 : Value} (h0 : jm_tg H r0 = 13) (h1 : ¬ jm_R H r0 17 = 0) (h2 : ¬ ((3 : Int32) < 0 ∨ jm_ln H (jm_R H r0 17) ≤ Int32.toNatClampNeg (3 : Int32))) (h3 : ¬ (jm_R H r0 17) = 1) (h4 : jm_tg H (jm_R H r0 17) = 100) : jm_w S 5 219 93 [.ref r0, .int x1, .int x2, .int x3, .int x4, w5] [] H Q = if ¬ (jm_I H (jm_R H r0 17) (Int32.toNatClampNeg (3 : Int32))) = (1 : Int32) then jm_w S 5 219 105 [.ref r0, .int x1, .int x2, .int x3, .int x4, w5] [] H Q else jm_w S 5 219 103 [.ref r0, .int x1, .int x2, .int x3, .int x4, w5] [] H Q := (js1 at219_93 rfl rfl rfl).trans ((jsgR (H := H) at219_94 rv219g_40 rfl h0 h1 rfl).trans ((jsci at219_97 rfl rfl).trans ((jsial (H := H) at219_98 h3 h4 h2 rfl).trans ((jsci at219_99 rfl rfl).trans (jsif (P := ¬ (jm_I H (jm_R H r0 17) (Int32.toNatClampNeg (3 : Int32))) = (1 : Int32)) at219_100 rfl rfl)))))
theorem at219_103 : jm_at 219 103 = some (.iconst 1) := rfl
theorem at219_104 : jm_at 219 104 = some (.ireturn) := rfl
theorem u219_103 {S : Option (Nat × (Nat → Int32))} {H : jm_H} {Q : Option Value → jm_H → Prop} {r0 : Nat} {x1 x2 x3 x4 : Int32} {w5 : Value} : jm_w S 5 219 103 [.ref r0, .int x1, .int x2, .int x3, .int x4, w5] [] H Q = Q (some (.int (1 : Int32))) H := (jsci at219_103 rfl rfl).trans (jsret_z at219_104 rfl (by decide))
theorem at219_105 : jm_at 219 105 = some (.aload_n 0) := rfl
theorem at219_106 : jm_at 219 106 = some (.invokevirtual 305) := rfl
theorem rv219i_305 : jm_rv 219 (.invokevirtual 305) = (2, 221, 0, 0) := rfl
theorem u219_105 {S : Option (Nat × (Nat → Int32))} {H : jm_H} {Q : Option Value → jm_H → Prop} {r0 : Nat} {x1 x2 x3 x4 : Int32} {w5 : Value} (h0 : jm_tg H r0 = 13) : jm_w S 5 219 105 [.ref r0, .int x1, .int x2, .int x3, .int x4, w5] [] H Q = jm_c S 221 [.ref r0] H (fun v G => jm_w S 5 219 109 [.ref r0, .int x1, .int x2, .int x3, .int x4, w5] (v.toList ++ []) G Q) := (js1 at219_105 rfl rfl rfl).trans (jscall (H := H) (as := [.ref r0]) (q := []) at219_106 rfl rv219i_305 (jscutV rfl rfl rfl (Nat.le_of_ble_eq_true rfl) rfl h0) rfl (Nat.le_of_ble_eq_true rfl) rfl rfl)
theorem at219_109 : jm_at 219 109 = some (.aload_n 0) := rfl
theorem at219_110 : jm_at 219 110 = some (.iload 4) := rfl
theorem at219_112 : jm_at 219 112 = some (.aload_n 0) := rfl
theorem at219_113 : jm_at 219 113 = some (.getfield 40) := rfl
theorem at219_116 : jm_at 219 116 = some (.iconst 1) := rfl
theorem at219_117 : jm_at 219 117 = some (.iaload) := rfl
theorem at219_118 : jm_at 219 118 = some (.iload_n 1) := rfl
theorem at219_119 : jm_at 219 119 = some (.iload_n 2) := rfl
theorem at219_120 : jm_at 219 120 = some (.iload_n 3) := rfl
theorem at219_121 : jm_at 219 121 = some (.ifCond .eq 7) := rfl
theorem u219_109 {S : Option (Nat × (Nat → Int32))} {H : jm_H} {Q : Option Value → jm_H → Prop} {r0 : Nat} {x1 x2 x3 x4 : Int32} {w5 : Value} (h0 : jm_tg H r0 = 13) (h1 : ¬ jm_R H r0 17 = 0) (h2 : ¬ ((1 : Int32) < 0 ∨ jm_ln H (jm_R H r0 17) ≤ Int32.toNatClampNeg (1 : Int32))) (h3 : ¬ (jm_R H r0 17) = 1) (h4 : jm_tg H (jm_R H r0 17) = 100) : jm_w S 5 219 109 [.ref r0, .int x1, .int x2, .int x3, .int x4, w5] [] H Q = if x3 = 0 then jm_w S 5 219 128 [.ref r0, .int x1, .int x2, .int x3, .int x4, w5] [.int x2, .int x1, .int (jm_I H (jm_R H r0 17) (Int32.toNatClampNeg (1 : Int32))), .int x4, .ref r0] H Q else jm_w S 5 219 124 [.ref r0, .int x1, .int x2, .int x3, .int x4, w5] [.int x2, .int x1, .int (jm_I H (jm_R H r0 17) (Int32.toNatClampNeg (1 : Int32))), .int x4, .ref r0] H Q := (js1 at219_109 rfl rfl rfl).trans ((js1 at219_110 rfl rfl rfl).trans ((js1 at219_112 rfl rfl rfl).trans ((jsgR (H := H) at219_113 rv219g_40 rfl h0 h1 rfl).trans ((jsci at219_116 rfl rfl).trans ((jsial (H := H) at219_117 h3 h4 h2 rfl).trans ((js1 at219_118 rfl rfl rfl).trans ((js1 at219_119 rfl rfl rfl).trans ((js1 at219_120 rfl rfl rfl).trans (jsif (P := x3 = 0) at219_121 rfl rfl)))))))))
theorem at219_124 : jm_at 219 124 = some (.iconst (-1)) := rfl
theorem at219_125 : jm_at 219 125 = some (.goto 4) := rfl
theorem u219_124 {S : Option (Nat × (Nat → Int32))} {H : jm_H} {Q : Option Value → jm_H → Prop} {r0 o0 : Nat} {x1 x2 x3 x4 p1 p2 p3 p4 : Int32} {w5 : Value} : jm_w S 5 219 124 [.ref r0, .int x1, .int x2, .int x3, .int x4, w5] [.int p4, .int p3, .int p2, .int p1, .ref o0] H Q = jm_w S 5 219 129 [.ref r0, .int x1, .int x2, .int x3, .int x4, w5] [.int (-1 : Int32), .int p4, .int p3, .int p2, .int p1, .ref o0] H Q := (jsci at219_124 rfl rfl).trans (js2 at219_125 rfl rfl)
theorem at219_128 : jm_at 219 128 = some (.iconst 1) := rfl
theorem u219_128 {S : Option (Nat × (Nat → Int32))} {H : jm_H} {Q : Option Value → jm_H → Prop} {r0 o0 : Nat} {x1 x2 x3 x4 p1 p2 p3 p4 : Int32} {w5 : Value} : jm_w S 5 219 128 [.ref r0, .int x1, .int x2, .int x3, .int x4, w5] [.int p4, .int p3, .int p2, .int p1, .ref o0] H Q = jm_w S 5 219 129 [.ref r0, .int x1, .int x2, .int x3, .int x4, w5] [.int (1 : Int32), .int p4, .int p3, .int p2, .int p1, .ref o0] H Q := jsci at219_128 rfl rfl
theorem at219_129 : jm_at 219 129 = some (.invokevirtual 283) := rfl
theorem rv219i_283 : jm_rv 219 (.invokevirtual 283) = (2, 205, 0, 0) := rfl
theorem u219_129 {S : Option (Nat × (Nat → Int32))} {H : jm_H} {Q : Option Value → jm_H → Prop} {r0 o0 : Nat} {x1 x2 x3 x4 p1 p2 p3 p4 p5 : Int32} {w5 : Value} (h0 : jm_tg H o0 = 13) : jm_w S 5 219 129 [.ref r0, .int x1, .int x2, .int x3, .int x4, w5] [.int p5, .int p4, .int p3, .int p2, .int p1, .ref o0] H Q = jm_c S 205 [.ref o0, .int p1, .int p2, .int p3, .int p4, .int p5] H (fun v G => jm_w S 5 219 132 [.ref r0, .int x1, .int x2, .int x3, .int x4, w5] (v.toList ++ []) G Q) := jscall (H := H) (as := [.ref o0, .int p1, .int p2, .int p3, .int p4, .int p5]) (q := []) at219_129 rfl rv219i_283 (jscutV rfl rfl rfl (Nat.le_of_ble_eq_true rfl) rfl h0) rfl (Nat.le_of_ble_eq_true rfl) rfl rfl
theorem at219_132 : jm_at 219 132 = some (.aload_n 0) := rfl
theorem at219_133 : jm_at 219 133 = some (.getfield 40) := rfl
theorem at219_136 : jm_at 219 136 = some (.iconst 2) := rfl
theorem at219_137 : jm_at 219 137 = some (.aload_n 0) := rfl
theorem at219_138 : jm_at 219 138 = some (.getfield 308) := rfl
theorem rv219g_308 : jm_rv 219 (.getfield 308) = (0, 12, 52, 0) := rfl
theorem at219_141 : jm_at 219 141 = some (.iastore) := rfl
theorem at219_142 : jm_at 219 142 = some (.iconst 0) := rfl
theorem at219_143 : jm_at 219 143 = some (.istore 5) := rfl
theorem u219_132 {S : Option (Nat × (Nat → Int32))} {H : jm_H} {Q : Option Value → jm_H → Prop} {r0 : Nat} {x1 x2 x3 x4 : Int32} {w5 : Value} (h0 : jm_tg H r0 = 13) (h1 : ¬ jm_R H r0 17 = 0) (h2 : ¬ ((2 : Int32) < 0 ∨ jm_ln H (jm_R H r0 17) ≤ Int32.toNatClampNeg (2 : Int32))) (h3 : jm_tg H (jm_R H r0 17) = 100) : jm_w S 5 219 132 [.ref r0, .int x1, .int x2, .int x3, .int x4, w5] [] H Q = jm_w S 5 219 145 [.ref r0, .int x1, .int x2, .int x3, .int x4, .int (0 : Int32)] [] (jm_pI H (jm_R H r0 17) (Int32.toNatClampNeg (2 : Int32)) (jm_I H r0 52)) Q := (js1 at219_132 rfl rfl rfl).trans ((jsgR (H := H) at219_133 rv219g_40 rfl h0 h1 rfl).trans ((jsci at219_136 rfl rfl).trans ((js1 at219_137 rfl rfl rfl).trans ((jsgI (H := H) at219_138 rv219g_308 (Or.inl rfl) h0 rfl).trans ((jsias (H := H) at219_141 h3 h2 rfl).trans ((jsci at219_142 rfl rfl).trans (js1 at219_143 rfl rfl rfl)))))))
theorem at219_145 : jm_at 219 145 = some (.iload 5) := rfl
theorem at219_147 : jm_at 219 147 = some (.bipush 16) := rfl
theorem at219_149 : jm_at 219 149 = some (.if_icmp .ge 25) := rfl
theorem u219_145 {S : Option (Nat × (Nat → Int32))} {H : jm_H} {Q : Option Value → jm_H → Prop} {r0 : Nat} {x1 x2 x3 x4 x5 : Int32} : jm_w S 5 219 145 [.ref r0, .int x1, .int x2, .int x3, .int x4, .int x5] [] H Q = if (16 : Int32) ≤ x5 then jm_w S 5 219 174 [.ref r0, .int x1, .int x2, .int x3, .int x4, .int x5] [] H Q else jm_w S 5 219 152 [.ref r0, .int x1, .int x2, .int x3, .int x4, .int x5] [] H Q := (js1 at219_145 rfl rfl rfl).trans ((jscb at219_147 rfl rfl).trans (jsif (P := (16 : Int32) ≤ x5) at219_149 rfl rfl))
theorem at219_152 : jm_at 219 152 = some (.aload_n 0) := rfl
theorem at219_153 : jm_at 219 153 = some (.getfield 40) := rfl
theorem at219_156 : jm_at 219 156 = some (.iconst 4) := rfl
theorem at219_157 : jm_at 219 157 = some (.iload 5) := rfl
theorem at219_159 : jm_at 219 159 = some (.iadd) := rfl
theorem at219_160 : jm_at 219 160 = some (.aload_n 0) := rfl
theorem at219_161 : jm_at 219 161 = some (.getfield 92) := rfl
theorem rv219g_92 : jm_rv 219 (.getfield 92) = (0, 12, 50, 0) := rfl
theorem at219_164 : jm_at 219 164 = some (.iload 5) := rfl
theorem at219_166 : jm_at 219 166 = some (.iaload) := rfl
theorem at219_167 : jm_at 219 167 = some (.iastore) := rfl
theorem at219_168 : jm_at 219 168 = some (.iinc 5 1) := rfl
theorem at219_171 : jm_at 219 171 = some (.goto (-26)) := rfl
theorem u219_152 {S : Option (Nat × (Nat → Int32))} {H : jm_H} {Q : Option Value → jm_H → Prop} {r0 : Nat} {x1 x2 x3 x4 x5 : Int32} (h0 : jm_tg H r0 = 13) (h1 : ¬ jm_R H r0 17 = 0) (h2 : ¬ jm_R H r0 50 = 0) (h3 : ¬ (x5 < 0 ∨ jm_ln H (jm_R H r0 50) ≤ Int32.toNatClampNeg x5)) (h4 : ¬ (jm_R H r0 50) = 1) (h5 : jm_tg H (jm_R H r0 50) = 100) (h6 : ¬ (((4 : Int32) + x5) < 0 ∨ jm_ln H (jm_R H r0 17) ≤ Int32.toNatClampNeg ((4 : Int32) + x5))) (h7 : jm_tg H (jm_R H r0 17) = 100) : jm_w S 5 219 152 [.ref r0, .int x1, .int x2, .int x3, .int x4, .int x5] [] H Q = jm_w S 5 219 145 [.ref r0, .int x1, .int x2, .int x3, .int x4, .int (x5 + 1)] [] (jm_pI H (jm_R H r0 17) (Int32.toNatClampNeg ((4 : Int32) + x5)) (jm_I H (jm_R H r0 50) (Int32.toNatClampNeg x5))) Q := (js1 at219_152 rfl rfl rfl).trans ((jsgR (H := H) at219_153 rv219g_40 rfl h0 h1 rfl).trans ((jsci at219_156 rfl rfl).trans ((js1 at219_157 rfl rfl rfl).trans ((js0 at219_159 rfl rfl rfl).trans ((js1 at219_160 rfl rfl rfl).trans ((jsgR (H := H) at219_161 rv219g_92 rfl h0 h2 rfl).trans ((js1 at219_164 rfl rfl rfl).trans ((jsial (H := H) at219_166 h4 h5 h3 rfl).trans ((jsias (H := H) at219_167 h7 h6 rfl).trans ((jsinc at219_168 rfl rfl rfl).trans (js2 at219_171 rfl rfl)))))))))))
theorem at219_174 : jm_at 219 174 = some (.iconst 1) := rfl
theorem at219_175 : jm_at 219 175 = some (.ireturn) := rfl
theorem u219_174 {S : Option (Nat × (Nat → Int32))} {H : jm_H} {Q : Option Value → jm_H → Prop} {r0 : Nat} {x1 x2 x3 x4 x5 : Int32} : jm_w S 5 219 174 [.ref r0, .int x1, .int x2, .int x3, .int x4, .int x5] [] H Q = Q (some (.int (1 : Int32))) H := (jsci at219_174 rfl rfl).trans (jsret_z at219_175 rfl (by decide))
theorem en219 {S : Option (Nat × (Nat → Int32))} {H : jm_H} {Q : Option Value → jm_H → Prop} {r0 : Nat} {x1 x2 x3 : Int32} : jm_c S 219 [.ref r0, .int x1, .int x2, .int x3] H Q = jm_w S 5 219 0 [.ref r0, .int x1, .int x2, .int x3, .null, .null] [] H Q := rfl
theorem at220_0 : jm_at 220 0 = some (.iload_n 0) := rfl
theorem at220_1 : jm_at 220 1 = some (.iload_n 1) := rfl
theorem at220_2 : jm_at 220 2 = some (.invokestatic 290) := rfl
theorem rv220i_290 : jm_rv 220 (.invokestatic 290) = (1, 217, 0, 0) := rfl
theorem u220_0 {S : Option (Nat × (Nat → Int32))} {H : jm_H} {Q : Option Value → jm_H → Prop} {x0 x1 x2 : Int32} : jm_w S 3 220 0 [.int x0, .int x1, .int x2] [] H Q = jm_c S 217 [.int x0, .int x1] H (fun v G => jm_w S 3 220 5 [.int x0, .int x1, .int x2] (v.toList ++ []) G Q) := (js1 at220_0 rfl rfl rfl).trans ((js1 at220_1 rfl rfl rfl).trans (jscall (H := H) (as := [.int x0, .int x1]) (q := []) at220_2 rfl rv220i_290 (jscut rfl rfl rfl (Nat.le_of_ble_eq_true rfl)) rfl (Nat.le_of_ble_eq_true rfl) rfl rfl))
theorem at220_5 : jm_at 220 5 = some (.ifCond .eq 20) := rfl
theorem u220_5 {S : Option (Nat × (Nat → Int32))} {H : jm_H} {Q : Option Value → jm_H → Prop} {x0 x1 x2 p0 : Int32} : jm_w S 3 220 5 [.int x0, .int x1, .int x2] [.int p0] H Q = if p0 = 0 then jm_w S 3 220 25 [.int x0, .int x1, .int x2] [] H Q else jm_w S 3 220 8 [.int x0, .int x1, .int x2] [] H Q := jsif (P := p0 = 0) at220_5 rfl rfl
theorem at220_8 : jm_at 220 8 = some (.iload_n 2) := rfl
theorem at220_9 : jm_at 220 9 = some (.iconst 0) := rfl
theorem at220_10 : jm_at 220 10 = some (.iconst 1) := rfl
theorem at220_11 : jm_at 220 11 = some (.iload_n 0) := rfl
theorem at220_12 : jm_at 220 12 = some (.ishl) := rfl
theorem at220_13 : jm_at 220 13 = some (.iconst 1) := rfl
theorem at220_14 : jm_at 220 14 = some (.isub) := rfl
theorem at220_15 : jm_at 220 15 = some (.invokestatic 218) := rfl
theorem rv220i_218 : jm_rv 220 (.invokestatic 218) = (1, 176, 0, 0) := rfl
theorem u220_8 {S : Option (Nat × (Nat → Int32))} {H : jm_H} {Q : Option Value → jm_H → Prop} {x0 x1 x2 : Int32} : jm_w S 3 220 8 [.int x0, .int x1, .int x2] [] H Q = jm_c S 176 [.int x2, .int (0 : Int32), .int (((1 : Int32) <<< (x0 &&& 31)) - (1 : Int32))] H (fun v G => jm_w S 3 220 18 [.int x0, .int x1, .int x2] (v.toList ++ []) G Q) := (js1 at220_8 rfl rfl rfl).trans ((jsci at220_9 rfl rfl).trans ((jsci at220_10 rfl rfl).trans ((js1 at220_11 rfl rfl rfl).trans ((js0 at220_12 rfl rfl rfl).trans ((jsci at220_13 rfl rfl).trans ((js0 at220_14 rfl rfl rfl).trans (jscall (H := H) (as := [.int x2, .int (0 : Int32), .int (((1 : Int32) <<< (x0 &&& 31)) - (1 : Int32))]) (q := []) at220_15 rfl rv220i_218 (jscut rfl rfl rfl (Nat.le_of_ble_eq_true rfl)) rfl (Nat.le_of_ble_eq_true rfl) rfl rfl)))))))
theorem at220_18 : jm_at 220 18 = some (.ifCond .eq 7) := rfl
theorem u220_18 {S : Option (Nat × (Nat → Int32))} {H : jm_H} {Q : Option Value → jm_H → Prop} {x0 x1 x2 p0 : Int32} : jm_w S 3 220 18 [.int x0, .int x1, .int x2] [.int p0] H Q = if p0 = 0 then jm_w S 3 220 25 [.int x0, .int x1, .int x2] [] H Q else jm_w S 3 220 21 [.int x0, .int x1, .int x2] [] H Q := jsif (P := p0 = 0) at220_18 rfl rfl
theorem at220_21 : jm_at 220 21 = some (.iconst 1) := rfl
theorem at220_22 : jm_at 220 22 = some (.goto 4) := rfl
theorem u220_21 {S : Option (Nat × (Nat → Int32))} {H : jm_H} {Q : Option Value → jm_H → Prop} {x0 x1 x2 : Int32} : jm_w S 3 220 21 [.int x0, .int x1, .int x2] [] H Q = jm_w S 3 220 26 [.int x0, .int x1, .int x2] [.int (1 : Int32)] H Q := (jsci at220_21 rfl rfl).trans (js2 at220_22 rfl rfl)
theorem at220_25 : jm_at 220 25 = some (.iconst 0) := rfl
theorem u220_25 {S : Option (Nat × (Nat → Int32))} {H : jm_H} {Q : Option Value → jm_H → Prop} {x0 x1 x2 : Int32} : jm_w S 3 220 25 [.int x0, .int x1, .int x2] [] H Q = jm_w S 3 220 26 [.int x0, .int x1, .int x2] [.int (0 : Int32)] H Q := jsci at220_25 rfl rfl
theorem at220_26 : jm_at 220 26 = some (.ireturn) := rfl
theorem u220_26 {S : Option (Nat × (Nat → Int32))} {H : jm_H} {Q : Option Value → jm_H → Prop} {x0 x1 x2 p0 : Int32} (h0 : p0 = 0 ∨ p0 = 1) : jm_w S 3 220 26 [.int x0, .int x1, .int x2] [.int p0] H Q = Q (some (.int p0)) H := jsret_z at220_26 rfl h0
theorem en220 {S : Option (Nat × (Nat → Int32))} {H : jm_H} {Q : Option Value → jm_H → Prop} {x0 x1 x2 : Int32} : jm_c S 220 [.int x0, .int x1, .int x2] H Q = jm_w S 3 220 0 [.int x0, .int x1, .int x2] [] H Q := rfl
theorem at221_0 : jm_at 221 0 = some (.aload_n 0) := rfl
theorem at221_1 : jm_at 221 1 = some (.aload_n 0) := rfl
theorem at221_2 : jm_at 221 2 = some (.getfield 40) := rfl
theorem rv221g_40 : jm_rv 221 (.getfield 40) = (0, 12, 17, 0) := rfl
theorem at221_5 : jm_at 221 5 = some (.iconst 2) := rfl
theorem at221_6 : jm_at 221 6 = some (.iaload) := rfl
theorem at221_7 : jm_at 221 7 = some (.putfield 308) := rfl
theorem rv221p_308 : jm_rv 221 (.putfield 308) = (0, 12, 52, 0) := rfl
theorem at221_10 : jm_at 221 10 = some (.iconst 0) := rfl
theorem at221_11 : jm_at 221 11 = some (.istore_n 1) := rfl
theorem u221_0 {S : Option (Nat × (Nat → Int32))} {H : jm_H} {Q : Option Value → jm_H → Prop} {r0 : Nat} (h0 : jm_tg H r0 = 13) (h1 : ¬ jm_R H r0 17 = 0) (h2 : ¬ ((2 : Int32) < 0 ∨ jm_ln H (jm_R H r0 17) ≤ Int32.toNatClampNeg (2 : Int32))) (h3 : ¬ (jm_R H r0 17) = 1) (h4 : jm_tg H (jm_R H r0 17) = 100) : jm_w S 1 221 0 [.ref r0, .null] [] H Q = jm_w S 1 221 12 [.ref r0, .int (0 : Int32)] [] (jm_pI H r0 52 (jm_I H (jm_R H r0 17) (Int32.toNatClampNeg (2 : Int32)))) Q := (js1 at221_0 rfl rfl rfl).trans ((js1 at221_1 rfl rfl rfl).trans ((jsgR (H := H) at221_2 rv221g_40 rfl h0 h1 rfl).trans ((jsci at221_5 rfl rfl).trans ((jsial (H := H) at221_6 h3 h4 h2 rfl).trans ((jspI (H := H) at221_7 rv221p_308 rfl h0 rfl).trans ((jsci at221_10 rfl rfl).trans (js1 at221_11 rfl rfl rfl)))))))
theorem at221_12 : jm_at 221 12 = some (.iload_n 1) := rfl
theorem at221_13 : jm_at 221 13 = some (.bipush 16) := rfl
theorem at221_15 : jm_at 221 15 = some (.if_icmp .ge 23) := rfl
theorem u221_12 {S : Option (Nat × (Nat → Int32))} {H : jm_H} {Q : Option Value → jm_H → Prop} {r0 : Nat} {x1 : Int32} : jm_w S 1 221 12 [.ref r0, .int x1] [] H Q = if (16 : Int32) ≤ x1 then jm_w S 1 221 38 [.ref r0, .int x1] [] H Q else jm_w S 1 221 18 [.ref r0, .int x1] [] H Q := (js1 at221_12 rfl rfl rfl).trans ((jscb at221_13 rfl rfl).trans (jsif (P := (16 : Int32) ≤ x1) at221_15 rfl rfl))
theorem at221_18 : jm_at 221 18 = some (.aload_n 0) := rfl
theorem at221_19 : jm_at 221 19 = some (.getfield 92) := rfl
theorem rv221g_92 : jm_rv 221 (.getfield 92) = (0, 12, 50, 0) := rfl
theorem at221_22 : jm_at 221 22 = some (.iload_n 1) := rfl
theorem at221_23 : jm_at 221 23 = some (.aload_n 0) := rfl
theorem at221_24 : jm_at 221 24 = some (.getfield 40) := rfl
theorem at221_27 : jm_at 221 27 = some (.iconst 4) := rfl
theorem at221_28 : jm_at 221 28 = some (.iload_n 1) := rfl
theorem at221_29 : jm_at 221 29 = some (.iadd) := rfl
theorem at221_30 : jm_at 221 30 = some (.iaload) := rfl
theorem at221_31 : jm_at 221 31 = some (.iastore) := rfl
theorem at221_32 : jm_at 221 32 = some (.iinc 1 1) := rfl
theorem at221_35 : jm_at 221 35 = some (.goto (-23)) := rfl
theorem u221_18 {S : Option (Nat × (Nat → Int32))} {H : jm_H} {Q : Option Value → jm_H → Prop} {r0 : Nat} {x1 : Int32} (h0 : jm_tg H r0 = 13) (h1 : ¬ jm_R H r0 50 = 0) (h2 : ¬ jm_R H r0 17 = 0) (h3 : ¬ (((4 : Int32) + x1) < 0 ∨ jm_ln H (jm_R H r0 17) ≤ Int32.toNatClampNeg ((4 : Int32) + x1))) (h4 : ¬ (jm_R H r0 17) = 1) (h5 : jm_tg H (jm_R H r0 17) = 100) (h6 : ¬ (x1 < 0 ∨ jm_ln H (jm_R H r0 50) ≤ Int32.toNatClampNeg x1)) (h7 : jm_tg H (jm_R H r0 50) = 100) : jm_w S 1 221 18 [.ref r0, .int x1] [] H Q = jm_w S 1 221 12 [.ref r0, .int (x1 + 1)] [] (jm_pI H (jm_R H r0 50) (Int32.toNatClampNeg x1) (jm_I H (jm_R H r0 17) (Int32.toNatClampNeg ((4 : Int32) + x1)))) Q := (js1 at221_18 rfl rfl rfl).trans ((jsgR (H := H) at221_19 rv221g_92 rfl h0 h1 rfl).trans ((js1 at221_22 rfl rfl rfl).trans ((js1 at221_23 rfl rfl rfl).trans ((jsgR (H := H) at221_24 rv221g_40 rfl h0 h2 rfl).trans ((jsci at221_27 rfl rfl).trans ((js1 at221_28 rfl rfl rfl).trans ((js0 at221_29 rfl rfl rfl).trans ((jsial (H := H) at221_30 h4 h5 h3 rfl).trans ((jsias (H := H) at221_31 h7 h6 rfl).trans ((jsinc at221_32 rfl rfl rfl).trans (js2 at221_35 rfl rfl)))))))))))
theorem at221_38 : jm_at 221 38 = some (.return_) := rfl
theorem u221_38 {S : Option (Nat × (Nat → Int32))} {H : jm_H} {Q : Option Value → jm_H → Prop} {r0 : Nat} {x1 : Int32} : jm_w S 1 221 38 [.ref r0, .int x1] [] H Q = Q none H := jsret_v at221_38 rfl
theorem en221 {S : Option (Nat × (Nat → Int32))} {H : jm_H} {Q : Option Value → jm_H → Prop} {r0 : Nat} : jm_c S 221 [.ref r0] H Q = jm_w S 1 221 0 [.ref r0, .null] [] H Q := rfl
theorem at222_0 : jm_at 222 0 = some (.aload_n 0) := rfl
theorem at222_1 : jm_at 222 1 = some (.getfield 40) := rfl
theorem rv222g_40 : jm_rv 222 (.getfield 40) = (0, 12, 17, 0) := rfl
theorem at222_4 : jm_at 222 4 = some (.iconst 2) := rfl
theorem at222_5 : jm_at 222 5 = some (.iaload) := rfl
theorem at222_6 : jm_at 222 6 = some (.ifCond .ne 14) := rfl
theorem u222_0 {S : Option (Nat × (Nat → Int32))} {H : jm_H} {Q : Option Value → jm_H → Prop} {r0 : Nat} (h0 : jm_tg H r0 = 13) (h1 : ¬ jm_R H r0 17 = 0) (h2 : ¬ ((2 : Int32) < 0 ∨ jm_ln H (jm_R H r0 17) ≤ Int32.toNatClampNeg (2 : Int32))) (h3 : ¬ (jm_R H r0 17) = 1) (h4 : jm_tg H (jm_R H r0 17) = 100) : jm_w S 2 222 0 [.ref r0, .null] [] H Q = if ¬ (jm_I H (jm_R H r0 17) (Int32.toNatClampNeg (2 : Int32))) = 0 then jm_w S 2 222 20 [.ref r0, .null] [] H Q else jm_w S 2 222 9 [.ref r0, .null] [] H Q := (js1 at222_0 rfl rfl rfl).trans ((jsgR (H := H) at222_1 rv222g_40 rfl h0 h1 rfl).trans ((jsci at222_4 rfl rfl).trans ((jsial (H := H) at222_5 h3 h4 h2 rfl).trans (jsif (P := ¬ (jm_I H (jm_R H r0 17) (Int32.toNatClampNeg (2 : Int32))) = 0) at222_6 rfl rfl))))
theorem at222_9 : jm_at 222 9 = some (.aload_n 0) := rfl
theorem at222_10 : jm_at 222 10 = some (.getfield 40) := rfl
theorem at222_13 : jm_at 222 13 = some (.iconst 3) := rfl
theorem at222_14 : jm_at 222 14 = some (.iaload) := rfl
theorem at222_15 : jm_at 222 15 = some (.ifCond .ne 5) := rfl
theorem u222_9 {S : Option (Nat × (Nat → Int32))} {H : jm_H} {Q : Option Value → jm_H → Prop} {r0 : Nat} (h0 : jm_tg H r0 = 13) (h1 : ¬ jm_R H r0 17 = 0) (h2 : ¬ ((3 : Int32) < 0 ∨ jm_ln H (jm_R H r0 17) ≤ Int32.toNatClampNeg (3 : Int32))) (h3 : ¬ (jm_R H r0 17) = 1) (h4 : jm_tg H (jm_R H r0 17) = 100) : jm_w S 2 222 9 [.ref r0, .null] [] H Q = if ¬ (jm_I H (jm_R H r0 17) (Int32.toNatClampNeg (3 : Int32))) = 0 then jm_w S 2 222 20 [.ref r0, .null] [] H Q else jm_w S 2 222 18 [.ref r0, .null] [] H Q := (js1 at222_9 rfl rfl rfl).trans ((jsgR (H := H) at222_10 rv222g_40 rfl h0 h1 rfl).trans ((jsci at222_13 rfl rfl).trans ((jsial (H := H) at222_14 h3 h4 h2 rfl).trans (jsif (P := ¬ (jm_I H (jm_R H r0 17) (Int32.toNatClampNeg (3 : Int32))) = 0) at222_15 rfl rfl))))
theorem at222_18 : jm_at 222 18 = some (.iconst 0) := rfl
theorem at222_19 : jm_at 222 19 = some (.ireturn) := rfl
theorem u222_18 {S : Option (Nat × (Nat → Int32))} {H : jm_H} {Q : Option Value → jm_H → Prop} {r0 : Nat} : jm_w S 2 222 18 [.ref r0, .null] [] H Q = Q (some (.int (0 : Int32))) H := (jsci at222_18 rfl rfl).trans (jsret_z at222_19 rfl (by decide))
theorem at222_20 : jm_at 222 20 = some (.aload_n 0) := rfl
theorem at222_21 : jm_at 222 21 = some (.invokevirtual 299) := rfl
theorem rv222i_299 : jm_rv 222 (.invokevirtual 299) = (2, 218, 0, 0) := rfl
theorem u222_20 {S : Option (Nat × (Nat → Int32))} {H : jm_H} {Q : Option Value → jm_H → Prop} {r0 : Nat} (h0 : jm_tg H r0 = 13) : jm_w S 2 222 20 [.ref r0, .null] [] H Q = jm_c S 218 [.ref r0] H (fun v G => jm_w S 2 222 24 [.ref r0, .null] (v.toList ++ []) G Q) := (js1 at222_20 rfl rfl rfl).trans (jscall (H := H) (as := [.ref r0]) (q := []) at222_21 rfl rv222i_299 (jscutV rfl rfl rfl (Nat.le_of_ble_eq_true rfl) rfl h0) rfl (Nat.le_of_ble_eq_true rfl) rfl rfl)
theorem at222_24 : jm_at 222 24 = some (.iconst 2) := rfl
theorem at222_25 : jm_at 222 25 = some (.istore_n 1) := rfl
theorem u222_24 {S : Option (Nat × (Nat → Int32))} {H : jm_H} {Q : Option Value → jm_H → Prop} {r0 : Nat} : jm_w S 2 222 24 [.ref r0, .null] [] H Q = jm_w S 2 222 26 [.ref r0, .int (2 : Int32)] [] H Q := (jsci at222_24 rfl rfl).trans (js1 at222_25 rfl rfl rfl)
theorem at222_26 : jm_at 222 26 = some (.iload_n 1) := rfl
theorem at222_27 : jm_at 222 27 = some (.bipush 20) := rfl
theorem at222_29 : jm_at 222 29 = some (.if_icmp .ge 16) := rfl
theorem u222_26 {S : Option (Nat × (Nat → Int32))} {H : jm_H} {Q : Option Value → jm_H → Prop} {r0 : Nat} {x1 : Int32} : jm_w S 2 222 26 [.ref r0, .int x1] [] H Q = if (20 : Int32) ≤ x1 then jm_w S 2 222 45 [.ref r0, .int x1] [] H Q else jm_w S 2 222 32 [.ref r0, .int x1] [] H Q := (js1 at222_26 rfl rfl rfl).trans ((jscb at222_27 rfl rfl).trans (jsif (P := (20 : Int32) ≤ x1) at222_29 rfl rfl))
theorem at222_32 : jm_at 222 32 = some (.aload_n 0) := rfl
theorem at222_33 : jm_at 222 33 = some (.getfield 40) := rfl
theorem at222_36 : jm_at 222 36 = some (.iload_n 1) := rfl
theorem at222_37 : jm_at 222 37 = some (.iconst 0) := rfl
theorem at222_38 : jm_at 222 38 = some (.iastore) := rfl
theorem at222_39 : jm_at 222 39 = some (.iinc 1 1) := rfl
theorem at222_42 : jm_at 222 42 = some (.goto (-16)) := rfl
theorem u222_32 {S : Option (Nat × (Nat → Int32))} {H : jm_H} {Q : Option Value → jm_H → Prop} {r0 : Nat} {x1 : Int32} (h0 : jm_tg H r0 = 13) (h1 : ¬ jm_R H r0 17 = 0) (h2 : ¬ (x1 < 0 ∨ jm_ln H (jm_R H r0 17) ≤ Int32.toNatClampNeg x1)) (h3 : jm_tg H (jm_R H r0 17) = 100) : jm_w S 2 222 32 [.ref r0, .int x1] [] H Q = jm_w S 2 222 26 [.ref r0, .int (x1 + 1)] [] (jm_pI H (jm_R H r0 17) (Int32.toNatClampNeg x1) (0 : Int32)) Q := (js1 at222_32 rfl rfl rfl).trans ((jsgR (H := H) at222_33 rv222g_40 rfl h0 h1 rfl).trans ((js1 at222_36 rfl rfl rfl).trans ((jsci at222_37 rfl rfl).trans ((jsias (H := H) at222_38 h3 h2 rfl).trans ((jsinc at222_39 rfl rfl rfl).trans (js2 at222_42 rfl rfl))))))
theorem at222_45 : jm_at 222 45 = some (.iconst 1) := rfl
theorem at222_46 : jm_at 222 46 = some (.ireturn) := rfl
theorem u222_45 {S : Option (Nat × (Nat → Int32))} {H : jm_H} {Q : Option Value → jm_H → Prop} {r0 : Nat} {x1 : Int32} : jm_w S 2 222 45 [.ref r0, .int x1] [] H Q = Q (some (.int (1 : Int32))) H := (jsci at222_45 rfl rfl).trans (jsret_z at222_46 rfl (by decide))
theorem en222 {S : Option (Nat × (Nat → Int32))} {H : jm_H} {Q : Option Value → jm_H → Prop} {r0 : Nat} : jm_c S 222 [.ref r0] H Q = jm_w S 2 222 0 [.ref r0, .null] [] H Q := rfl
theorem at223_0 : jm_at 223 0 = some (.iload_n 1) := rfl
theorem at223_1 : jm_at 223 1 = some (.iload_n 2) := rfl
theorem at223_2 : jm_at 223 2 = some (.iload_n 3) := rfl
theorem at223_3 : jm_at 223 3 = some (.invokestatic 302) := rfl
theorem rv223i_302 : jm_rv 223 (.invokestatic 302) = (1, 220, 0, 0) := rfl
theorem u223_0 {S : Option (Nat × (Nat → Int32))} {H : jm_H} {Q : Option Value → jm_H → Prop} {r0 : Nat} {x1 x2 x3 x4 x5 : Int32} : jm_w S 7 223 0 [.ref r0, .int x1, .int x2, .int x3, .int x4, .int x5] [] H Q = jm_c S 220 [.int x1, .int x2, .int x3] H (fun v G => jm_w S 7 223 6 [.ref r0, .int x1, .int x2, .int x3, .int x4, .int x5] (v.toList ++ []) G Q) := (js1 at223_0 rfl rfl rfl).trans ((js1 at223_1 rfl rfl rfl).trans ((js1 at223_2 rfl rfl rfl).trans (jscall (H := H) (as := [.int x1, .int x2, .int x3]) (q := []) at223_3 rfl rv223i_302 (jscut rfl rfl rfl (Nat.le_of_ble_eq_true rfl)) rfl (Nat.le_of_ble_eq_true rfl) rfl rfl)))
theorem at223_6 : jm_at 223 6 = some (.ifCond .eq 37) := rfl
theorem u223_6 {S : Option (Nat × (Nat → Int32))} {H : jm_H} {Q : Option Value → jm_H → Prop} {r0 : Nat} {x1 x2 x3 x4 x5 p0 : Int32} : jm_w S 7 223 6 [.ref r0, .int x1, .int x2, .int x3, .int x4, .int x5] [.int p0] H Q = if p0 = 0 then jm_w S 7 223 43 [.ref r0, .int x1, .int x2, .int x3, .int x4, .int x5] [] H Q else jm_w S 7 223 9 [.ref r0, .int x1, .int x2, .int x3, .int x4, .int x5] [] H Q := jsif (P := p0 = 0) at223_6 rfl rfl
theorem at223_9 : jm_at 223 9 = some (.iload_n 1) := rfl
theorem at223_10 : jm_at 223 10 = some (.iload_n 2) := rfl
theorem at223_11 : jm_at 223 11 = some (.iload 4) := rfl
theorem at223_13 : jm_at 223 13 = some (.invokestatic 302) := rfl
theorem u223_9 {S : Option (Nat × (Nat → Int32))} {H : jm_H} {Q : Option Value → jm_H → Prop} {r0 : Nat} {x1 x2 x3 x4 x5 : Int32} : jm_w S 7 223 9 [.ref r0, .int x1, .int x2, .int x3, .int x4, .int x5] [] H Q = jm_c S 220 [.int x1, .int x2, .int x4] H (fun v G => jm_w S 7 223 16 [.ref r0, .int x1, .int x2, .int x3, .int x4, .int x5] (v.toList ++ []) G Q) := (js1 at223_9 rfl rfl rfl).trans ((js1 at223_10 rfl rfl rfl).trans ((js1 at223_11 rfl rfl rfl).trans (jscall (H := H) (as := [.int x1, .int x2, .int x4]) (q := []) at223_13 rfl rv223i_302 (jscut rfl rfl rfl (Nat.le_of_ble_eq_true rfl)) rfl (Nat.le_of_ble_eq_true rfl) rfl rfl)))
theorem at223_16 : jm_at 223 16 = some (.ifCond .eq 27) := rfl
theorem u223_16 {S : Option (Nat × (Nat → Int32))} {H : jm_H} {Q : Option Value → jm_H → Prop} {r0 : Nat} {x1 x2 x3 x4 x5 p0 : Int32} : jm_w S 7 223 16 [.ref r0, .int x1, .int x2, .int x3, .int x4, .int x5] [.int p0] H Q = if p0 = 0 then jm_w S 7 223 43 [.ref r0, .int x1, .int x2, .int x3, .int x4, .int x5] [] H Q else jm_w S 7 223 19 [.ref r0, .int x1, .int x2, .int x3, .int x4, .int x5] [] H Q := jsif (P := p0 = 0) at223_16 rfl rfl
theorem at223_19 : jm_at 223 19 = some (.iload 5) := rfl
theorem at223_21 : jm_at 223 21 = some (.iconst 0) := rfl
theorem at223_22 : jm_at 223 22 = some (.iconst 3) := rfl
theorem at223_23 : jm_at 223 23 = some (.invokestatic 218) := rfl
theorem rv223i_218 : jm_rv 223 (.invokestatic 218) = (1, 176, 0, 0) := rfl
theorem u223_19 {S : Option (Nat × (Nat → Int32))} {H : jm_H} {Q : Option Value → jm_H → Prop} {r0 : Nat} {x1 x2 x3 x4 x5 : Int32} : jm_w S 7 223 19 [.ref r0, .int x1, .int x2, .int x3, .int x4, .int x5] [] H Q = jm_c S 176 [.int x5, .int (0 : Int32), .int (3 : Int32)] H (fun v G => jm_w S 7 223 26 [.ref r0, .int x1, .int x2, .int x3, .int x4, .int x5] (v.toList ++ []) G Q) := (js1 at223_19 rfl rfl rfl).trans ((jsci at223_21 rfl rfl).trans ((jsci at223_22 rfl rfl).trans (jscall (H := H) (as := [.int x5, .int (0 : Int32), .int (3 : Int32)]) (q := []) at223_23 rfl rv223i_218 (jscut rfl rfl rfl (Nat.le_of_ble_eq_true rfl)) rfl (Nat.le_of_ble_eq_true rfl) rfl rfl)))
theorem at223_26 : jm_at 223 26 = some (.ifCond .eq 17) := rfl
theorem u223_26 {S : Option (Nat × (Nat → Int32))} {H : jm_H} {Q : Option Value → jm_H → Prop} {r0 : Nat} {x1 x2 x3 x4 x5 p0 : Int32} : jm_w S 7 223 26 [.ref r0, .int x1, .int x2, .int x3, .int x4, .int x5] [.int p0] H Q = if p0 = 0 then jm_w S 7 223 43 [.ref r0, .int x1, .int x2, .int x3, .int x4, .int x5] [] H Q else jm_w S 7 223 29 [.ref r0, .int x1, .int x2, .int x3, .int x4, .int x5] [] H Q := jsif (P := p0 = 0) at223_26 rfl rfl
theorem at223_29 : jm_at 223 29 = some (.aload_n 0) := rfl
theorem at223_30 : jm_at 223 30 = some (.iload_n 1) := rfl
theorem at223_31 : jm_at 223 31 = some (.iload_n 2) := rfl
theorem at223_32 : jm_at 223 32 = some (.iload_n 3) := rfl
theorem at223_33 : jm_at 223 33 = some (.iload 4) := rfl
theorem at223_35 : jm_at 223 35 = some (.iload 5) := rfl
theorem at223_37 : jm_at 223 37 = some (.invokevirtual 269) := rfl
theorem rv223i_269 : jm_rv 223 (.invokevirtual 269) = (2, 209, 0, 0) := rfl
theorem u223_29 {S : Option (Nat × (Nat → Int32))} {H : jm_H} {Q : Option Value → jm_H → Prop} {r0 : Nat} {x1 x2 x3 x4 x5 : Int32} (h0 : jm_tg H r0 = 13) : jm_w S 7 223 29 [.ref r0, .int x1, .int x2, .int x3, .int x4, .int x5] [] H Q = jm_c S 209 [.ref r0, .int x1, .int x2, .int x3, .int x4, .int x5] H (fun v G => jm_w S 7 223 40 [.ref r0, .int x1, .int x2, .int x3, .int x4, .int x5] (v.toList ++ []) G Q) := (js1 at223_29 rfl rfl rfl).trans ((js1 at223_30 rfl rfl rfl).trans ((js1 at223_31 rfl rfl rfl).trans ((js1 at223_32 rfl rfl rfl).trans ((js1 at223_33 rfl rfl rfl).trans ((js1 at223_35 rfl rfl rfl).trans (jscall (H := H) (as := [.ref r0, .int x1, .int x2, .int x3, .int x4, .int x5]) (q := []) at223_37 rfl rv223i_269 (jscutV rfl rfl rfl (Nat.le_of_ble_eq_true rfl) rfl h0) rfl (Nat.le_of_ble_eq_true rfl) rfl rfl))))))
theorem at223_40 : jm_at 223 40 = some (.goto 4) := rfl
theorem u223_40 {S : Option (Nat × (Nat → Int32))} {H : jm_H} {Q : Option Value → jm_H → Prop} {r0 : Nat} {x1 x2 x3 x4 x5 p0 : Int32} : jm_w S 7 223 40 [.ref r0, .int x1, .int x2, .int x3, .int x4, .int x5] [.int p0] H Q = jm_w S 7 223 44 [.ref r0, .int x1, .int x2, .int x3, .int x4, .int x5] [.int p0] H Q := js2 at223_40 rfl rfl
theorem at223_43 : jm_at 223 43 = some (.iconst (-1)) := rfl
theorem u223_43 {S : Option (Nat × (Nat → Int32))} {H : jm_H} {Q : Option Value → jm_H → Prop} {r0 : Nat} {x1 x2 x3 x4 x5 : Int32} : jm_w S 7 223 43 [.ref r0, .int x1, .int x2, .int x3, .int x4, .int x5] [] H Q = jm_w S 7 223 44 [.ref r0, .int x1, .int x2, .int x3, .int x4, .int x5] [.int (-1 : Int32)] H Q := jsci at223_43 rfl rfl
theorem at223_44 : jm_at 223 44 = some (.ireturn) := rfl
theorem u223_44 {S : Option (Nat × (Nat → Int32))} {H : jm_H} {Q : Option Value → jm_H → Prop} {r0 : Nat} {x1 x2 x3 x4 x5 p0 : Int32} : jm_w S 7 223 44 [.ref r0, .int x1, .int x2, .int x3, .int x4, .int x5] [.int p0] H Q = Q (some (.int p0)) H := jsret_i at223_44 rfl
theorem en223 {S : Option (Nat × (Nat → Int32))} {H : jm_H} {Q : Option Value → jm_H → Prop} {r0 : Nat} {x1 x2 x3 x4 x5 : Int32} : jm_c S 223 [.ref r0, .int x1, .int x2, .int x3, .int x4, .int x5] H Q = jm_w S 7 223 0 [.ref r0, .int x1, .int x2, .int x3, .int x4, .int x5] [] H Q := rfl
theorem at224_0 : jm_at 224 0 = some (.iload_n 1) := rfl
theorem at224_1 : jm_at 224 1 = some (.iload_n 2) := rfl
theorem at224_2 : jm_at 224 2 = some (.iload_n 3) := rfl
theorem at224_3 : jm_at 224 3 = some (.invokestatic 302) := rfl
theorem rv224i_302 : jm_rv 224 (.invokestatic 302) = (1, 220, 0, 0) := rfl
theorem u224_0 {S : Option (Nat × (Nat → Int32))} {H : jm_H} {Q : Option Value → jm_H → Prop} {r0 : Nat} {x1 x2 x3 x4 x5 : Int32} : jm_w S 7 224 0 [.ref r0, .int x1, .int x2, .int x3, .int x4, .int x5, .null] [] H Q = jm_c S 220 [.int x1, .int x2, .int x3] H (fun v G => jm_w S 7 224 6 [.ref r0, .int x1, .int x2, .int x3, .int x4, .int x5, .null] (v.toList ++ []) G Q) := (js1 at224_0 rfl rfl rfl).trans ((js1 at224_1 rfl rfl rfl).trans ((js1 at224_2 rfl rfl rfl).trans (jscall (H := H) (as := [.int x1, .int x2, .int x3]) (q := []) at224_3 rfl rv224i_302 (jscut rfl rfl rfl (Nat.le_of_ble_eq_true rfl)) rfl (Nat.le_of_ble_eq_true rfl) rfl rfl)))
theorem at224_6 : jm_at 224 6 = some (.ifCond .eq 23) := rfl
theorem u224_6 {S : Option (Nat × (Nat → Int32))} {H : jm_H} {Q : Option Value → jm_H → Prop} {r0 : Nat} {x1 x2 x3 x4 x5 p0 : Int32} : jm_w S 7 224 6 [.ref r0, .int x1, .int x2, .int x3, .int x4, .int x5, .null] [.int p0] H Q = if p0 = 0 then jm_w S 7 224 29 [.ref r0, .int x1, .int x2, .int x3, .int x4, .int x5, .null] [] H Q else jm_w S 7 224 9 [.ref r0, .int x1, .int x2, .int x3, .int x4, .int x5, .null] [] H Q := jsif (P := p0 = 0) at224_6 rfl rfl
theorem at224_9 : jm_at 224 9 = some (.iload_n 1) := rfl
theorem at224_10 : jm_at 224 10 = some (.iload_n 2) := rfl
theorem at224_11 : jm_at 224 11 = some (.iload 4) := rfl
theorem at224_13 : jm_at 224 13 = some (.invokestatic 302) := rfl
theorem u224_9 {S : Option (Nat × (Nat → Int32))} {H : jm_H} {Q : Option Value → jm_H → Prop} {r0 : Nat} {x1 x2 x3 x4 x5 : Int32} : jm_w S 7 224 9 [.ref r0, .int x1, .int x2, .int x3, .int x4, .int x5, .null] [] H Q = jm_c S 220 [.int x1, .int x2, .int x4] H (fun v G => jm_w S 7 224 16 [.ref r0, .int x1, .int x2, .int x3, .int x4, .int x5, .null] (v.toList ++ []) G Q) := (js1 at224_9 rfl rfl rfl).trans ((js1 at224_10 rfl rfl rfl).trans ((js1 at224_11 rfl rfl rfl).trans (jscall (H := H) (as := [.int x1, .int x2, .int x4]) (q := []) at224_13 rfl rv224i_302 (jscut rfl rfl rfl (Nat.le_of_ble_eq_true rfl)) rfl (Nat.le_of_ble_eq_true rfl) rfl rfl)))
theorem at224_16 : jm_at 224 16 = some (.ifCond .eq 13) := rfl
theorem u224_16 {S : Option (Nat × (Nat → Int32))} {H : jm_H} {Q : Option Value → jm_H → Prop} {r0 : Nat} {x1 x2 x3 x4 x5 p0 : Int32} : jm_w S 7 224 16 [.ref r0, .int x1, .int x2, .int x3, .int x4, .int x5, .null] [.int p0] H Q = if p0 = 0 then jm_w S 7 224 29 [.ref r0, .int x1, .int x2, .int x3, .int x4, .int x5, .null] [] H Q else jm_w S 7 224 19 [.ref r0, .int x1, .int x2, .int x3, .int x4, .int x5, .null] [] H Q := jsif (P := p0 = 0) at224_16 rfl rfl
theorem at224_19 : jm_at 224 19 = some (.iload 5) := rfl
theorem at224_21 : jm_at 224 21 = some (.iconst 0) := rfl
theorem at224_22 : jm_at 224 22 = some (.iconst 3) := rfl
theorem at224_23 : jm_at 224 23 = some (.invokestatic 218) := rfl
theorem rv224i_218 : jm_rv 224 (.invokestatic 218) = (1, 176, 0, 0) := rfl
theorem u224_19 {S : Option (Nat × (Nat → Int32))} {H : jm_H} {Q : Option Value → jm_H → Prop} {r0 : Nat} {x1 x2 x3 x4 x5 : Int32} : jm_w S 7 224 19 [.ref r0, .int x1, .int x2, .int x3, .int x4, .int x5, .null] [] H Q = jm_c S 176 [.int x5, .int (0 : Int32), .int (3 : Int32)] H (fun v G => jm_w S 7 224 26 [.ref r0, .int x1, .int x2, .int x3, .int x4, .int x5, .null] (v.toList ++ []) G Q) := (js1 at224_19 rfl rfl rfl).trans ((jsci at224_21 rfl rfl).trans ((jsci at224_22 rfl rfl).trans (jscall (H := H) (as := [.int x5, .int (0 : Int32), .int (3 : Int32)]) (q := []) at224_23 rfl rv224i_218 (jscut rfl rfl rfl (Nat.le_of_ble_eq_true rfl)) rfl (Nat.le_of_ble_eq_true rfl) rfl rfl)))
theorem at224_26 : jm_at 224 26 = some (.ifCond .ne 5) := rfl
theorem u224_26 {S : Option (Nat × (Nat → Int32))} {H : jm_H} {Q : Option Value → jm_H → Prop} {r0 : Nat} {x1 x2 x3 x4 x5 p0 : Int32} : jm_w S 7 224 26 [.ref r0, .int x1, .int x2, .int x3, .int x4, .int x5, .null] [.int p0] H Q = if ¬ p0 = 0 then jm_w S 7 224 31 [.ref r0, .int x1, .int x2, .int x3, .int x4, .int x5, .null] [] H Q else jm_w S 7 224 29 [.ref r0, .int x1, .int x2, .int x3, .int x4, .int x5, .null] [] H Q := jsif (P := ¬ p0 = 0) at224_26 rfl rfl
theorem at224_29 : jm_at 224 29 = some (.iconst (-1)) := rfl
theorem at224_30 : jm_at 224 30 = some (.ireturn) := rfl
theorem u224_29 {S : Option (Nat × (Nat → Int32))} {H : jm_H} {Q : Option Value → jm_H → Prop} {r0 : Nat} {x1 x2 x3 x4 x5 : Int32} : jm_w S 7 224 29 [.ref r0, .int x1, .int x2, .int x3, .int x4, .int x5, .null] [] H Q = Q (some (.int (-1 : Int32))) H := (jsci at224_29 rfl rfl).trans (jsret_i at224_30 rfl)
theorem at224_31 : jm_at 224 31 = some (.aload_n 0) := rfl
theorem at224_32 : jm_at 224 32 = some (.iload_n 1) := rfl
theorem at224_33 : jm_at 224 33 = some (.iload_n 2) := rfl
theorem at224_34 : jm_at 224 34 = some (.iload_n 3) := rfl
theorem at224_35 : jm_at 224 35 = some (.iload 4) := rfl
theorem at224_37 : jm_at 224 37 = some (.iload 5) := rfl
theorem at224_39 : jm_at 224 39 = some (.invokevirtual 269) := rfl
theorem rv224i_269 : jm_rv 224 (.invokevirtual 269) = (2, 209, 0, 0) := rfl
theorem u224_31 {S : Option (Nat × (Nat → Int32))} {H : jm_H} {Q : Option Value → jm_H → Prop} {r0 : Nat} {x1 x2 x3 x4 x5 : Int32} (h0 : jm_tg H r0 = 13) : jm_w S 7 224 31 [.ref r0, .int x1, .int x2, .int x3, .int x4, .int x5, .null] [] H Q = jm_c S 209 [.ref r0, .int x1, .int x2, .int x3, .int x4, .int x5] H (fun v G => jm_w S 7 224 42 [.ref r0, .int x1, .int x2, .int x3, .int x4, .int x5, .null] (v.toList ++ []) G Q) := (js1 at224_31 rfl rfl rfl).trans ((js1 at224_32 rfl rfl rfl).trans ((js1 at224_33 rfl rfl rfl).trans ((js1 at224_34 rfl rfl rfl).trans ((js1 at224_35 rfl rfl rfl).trans ((js1 at224_37 rfl rfl rfl).trans (jscall (H := H) (as := [.ref r0, .int x1, .int x2, .int x3, .int x4, .int x5]) (q := []) at224_39 rfl rv224i_269 (jscutV rfl rfl rfl (Nat.le_of_ble_eq_true rfl) rfl h0) rfl (Nat.le_of_ble_eq_true rfl) rfl rfl))))))
theorem at224_42 : jm_at 224 42 = some (.istore 6) := rfl
theorem at224_44 : jm_at 224 44 = some (.iload_n 1) := rfl
theorem at224_45 : jm_at 224 45 = some (.iload 6) := rfl
theorem at224_47 : jm_at 224 47 = some (.invokestatic 276) := rfl
theorem rv224i_276 : jm_rv 224 (.invokestatic 276) = (1, 204, 0, 0) := rfl
theorem u224_42 {S : Option (Nat × (Nat → Int32))} {H : jm_H} {Q : Option Value → jm_H → Prop} {r0 : Nat} {x1 x2 x3 x4 x5 p0 : Int32} : jm_w S 7 224 42 [.ref r0, .int x1, .int x2, .int x3, .int x4, .int x5, .null] [.int p0] H Q = jm_c S 204 [.int x1, .int p0] H (fun v G => jm_w S 7 224 50 [.ref r0, .int x1, .int x2, .int x3, .int x4, .int x5, .int p0] (v.toList ++ []) G Q) := (js1 at224_42 rfl rfl rfl).trans ((js1 at224_44 rfl rfl rfl).trans ((js1 at224_45 rfl rfl rfl).trans (jscall (H := H) (as := [.int x1, .int p0]) (q := []) at224_47 rfl rv224i_276 (jscut rfl rfl rfl (Nat.le_of_ble_eq_true rfl)) rfl (Nat.le_of_ble_eq_true rfl) rfl rfl)))
theorem at224_50 : jm_at 224 50 = some (.ifCond .eq 8) := rfl
theorem u224_50 {S : Option (Nat × (Nat → Int32))} {H : jm_H} {Q : Option Value → jm_H → Prop} {r0 : Nat} {x1 x2 x3 x4 x5 x6 p0 : Int32} : jm_w S 7 224 50 [.ref r0, .int x1, .int x2, .int x3, .int x4, .int x5, .int x6] [.int p0] H Q = if p0 = 0 then jm_w S 7 224 58 [.ref r0, .int x1, .int x2, .int x3, .int x4, .int x5, .int x6] [] H Q else jm_w S 7 224 53 [.ref r0, .int x1, .int x2, .int x3, .int x4, .int x5, .int x6] [] H Q := jsif (P := p0 = 0) at224_50 rfl rfl
theorem at224_53 : jm_at 224 53 = some (.bipush (-2)) := rfl
theorem at224_55 : jm_at 224 55 = some (.goto 7) := rfl
theorem u224_53 {S : Option (Nat × (Nat → Int32))} {H : jm_H} {Q : Option Value → jm_H → Prop} {r0 : Nat} {x1 x2 x3 x4 x5 x6 : Int32} : jm_w S 7 224 53 [.ref r0, .int x1, .int x2, .int x3, .int x4, .int x5, .int x6] [] H Q = jm_w S 7 224 62 [.ref r0, .int x1, .int x2, .int x3, .int x4, .int x5, .int x6] [.int (-2 : Int32)] H Q := (jscb at224_53 rfl rfl).trans (js2 at224_55 rfl rfl)
theorem at224_58 : jm_at 224 58 = some (.aload_n 0) := rfl
theorem at224_59 : jm_at 224 59 = some (.getfield 380) := rfl
theorem rv224g_380 : jm_rv 224 (.getfield 380) = (0, 12, 58, 0) := rfl
theorem u224_58 {S : Option (Nat × (Nat → Int32))} {H : jm_H} {Q : Option Value → jm_H → Prop} {r0 : Nat} {x1 x2 x3 x4 x5 x6 : Int32} (h0 : jm_tg H r0 = 13) : jm_w S 7 224 58 [.ref r0, .int x1, .int x2, .int x3, .int x4, .int x5, .int x6] [] H Q = jm_w S 7 224 62 [.ref r0, .int x1, .int x2, .int x3, .int x4, .int x5, .int x6] [.int (jm_I H r0 58)] H Q := (js1 at224_58 rfl rfl rfl).trans (jsgI (H := H) at224_59 rv224g_380 (Or.inl rfl) h0 rfl)
theorem at224_62 : jm_at 224 62 = some (.ireturn) := rfl
theorem u224_62 {S : Option (Nat × (Nat → Int32))} {H : jm_H} {Q : Option Value → jm_H → Prop} {r0 : Nat} {x1 x2 x3 x4 x5 x6 p0 : Int32} : jm_w S 7 224 62 [.ref r0, .int x1, .int x2, .int x3, .int x4, .int x5, .int x6] [.int p0] H Q = Q (some (.int p0)) H := jsret_i at224_62 rfl
theorem en224 {S : Option (Nat × (Nat → Int32))} {H : jm_H} {Q : Option Value → jm_H → Prop} {r0 : Nat} {x1 x2 x3 x4 x5 : Int32} : jm_c S 224 [.ref r0, .int x1, .int x2, .int x3, .int x4, .int x5] H Q = jm_w S 7 224 0 [.ref r0, .int x1, .int x2, .int x3, .int x4, .int x5, .null] [] H Q := rfl
theorem at225_0 : jm_at 225 0 = some (.iload_n 1) := rfl
theorem at225_1 : jm_at 225 1 = some (.iload_n 2) := rfl
theorem at225_2 : jm_at 225 2 = some (.iload_n 3) := rfl
theorem at225_3 : jm_at 225 3 = some (.invokestatic 302) := rfl
theorem rv225i_302 : jm_rv 225 (.invokestatic 302) = (1, 220, 0, 0) := rfl
theorem u225_0 {S : Option (Nat × (Nat → Int32))} {H : jm_H} {Q : Option Value → jm_H → Prop} {r0 : Nat} {x1 x2 x3 : Int32} : jm_w S 6 225 0 [.ref r0, .int x1, .int x2, .int x3] [] H Q = jm_c S 220 [.int x1, .int x2, .int x3] H (fun v G => jm_w S 6 225 6 [.ref r0, .int x1, .int x2, .int x3] (v.toList ++ []) G Q) := (js1 at225_0 rfl rfl rfl).trans ((js1 at225_1 rfl rfl rfl).trans ((js1 at225_2 rfl rfl rfl).trans (jscall (H := H) (as := [.int x1, .int x2, .int x3]) (q := []) at225_3 rfl rv225i_302 (jscut rfl rfl rfl (Nat.le_of_ble_eq_true rfl)) rfl (Nat.le_of_ble_eq_true rfl) rfl rfl)))
theorem at225_6 : jm_at 225 6 = some (.ifCond .eq 13) := rfl
theorem u225_6 {S : Option (Nat × (Nat → Int32))} {H : jm_H} {Q : Option Value → jm_H → Prop} {r0 : Nat} {x1 x2 x3 p0 : Int32} : jm_w S 6 225 6 [.ref r0, .int x1, .int x2, .int x3] [.int p0] H Q = if p0 = 0 then jm_w S 6 225 19 [.ref r0, .int x1, .int x2, .int x3] [] H Q else jm_w S 6 225 9 [.ref r0, .int x1, .int x2, .int x3] [] H Q := jsif (P := p0 = 0) at225_6 rfl rfl
theorem at225_9 : jm_at 225 9 = some (.aload_n 0) := rfl
theorem at225_10 : jm_at 225 10 = some (.iload_n 1) := rfl
theorem at225_11 : jm_at 225 11 = some (.iload_n 2) := rfl
theorem at225_12 : jm_at 225 12 = some (.iload_n 3) := rfl
theorem at225_13 : jm_at 225 13 = some (.invokevirtual 262) := rfl
theorem rv225i_262 : jm_rv 225 (.invokevirtual 262) = (2, 201, 0, 0) := rfl
theorem u225_9 {S : Option (Nat × (Nat → Int32))} {H : jm_H} {Q : Option Value → jm_H → Prop} {r0 : Nat} {x1 x2 x3 : Int32} (h0 : jm_tg H r0 = 13) : jm_w S 6 225 9 [.ref r0, .int x1, .int x2, .int x3] [] H Q = jm_c S 201 [.ref r0, .int x1, .int x2, .int x3] H (fun v G => jm_w S 6 225 16 [.ref r0, .int x1, .int x2, .int x3] (v.toList ++ []) G Q) := (js1 at225_9 rfl rfl rfl).trans ((js1 at225_10 rfl rfl rfl).trans ((js1 at225_11 rfl rfl rfl).trans ((js1 at225_12 rfl rfl rfl).trans (jscall (H := H) (as := [.ref r0, .int x1, .int x2, .int x3]) (q := []) at225_13 rfl rv225i_262 (jscutV rfl rfl rfl (Nat.le_of_ble_eq_true rfl) rfl h0) rfl (Nat.le_of_ble_eq_true rfl) rfl rfl))))
theorem at225_16 : jm_at 225 16 = some (.goto 4) := rfl
theorem u225_16 {S : Option (Nat × (Nat → Int32))} {H : jm_H} {Q : Option Value → jm_H → Prop} {r0 : Nat} {x1 x2 x3 p0 : Int32} : jm_w S 6 225 16 [.ref r0, .int x1, .int x2, .int x3] [.int p0] H Q = jm_w S 6 225 20 [.ref r0, .int x1, .int x2, .int x3] [.int p0] H Q := js2 at225_16 rfl rfl
theorem at225_19 : jm_at 225 19 = some (.iconst (-1)) := rfl
theorem u225_19 {S : Option (Nat × (Nat → Int32))} {H : jm_H} {Q : Option Value → jm_H → Prop} {r0 : Nat} {x1 x2 x3 : Int32} : jm_w S 6 225 19 [.ref r0, .int x1, .int x2, .int x3] [] H Q = jm_w S 6 225 20 [.ref r0, .int x1, .int x2, .int x3] [.int (-1 : Int32)] H Q := jsci at225_19 rfl rfl
theorem at225_20 : jm_at 225 20 = some (.ireturn) := rfl
theorem u225_20 {S : Option (Nat × (Nat → Int32))} {H : jm_H} {Q : Option Value → jm_H → Prop} {r0 : Nat} {x1 x2 x3 p0 : Int32} : jm_w S 6 225 20 [.ref r0, .int x1, .int x2, .int x3] [.int p0] H Q = Q (some (.int p0)) H := jsret_i at225_20 rfl
theorem en225 {S : Option (Nat × (Nat → Int32))} {H : jm_H} {Q : Option Value → jm_H → Prop} {r0 : Nat} {x1 x2 x3 : Int32} : jm_c S 225 [.ref r0, .int x1, .int x2, .int x3] H Q = jm_w S 6 225 0 [.ref r0, .int x1, .int x2, .int x3] [] H Q := rfl
theorem at226_0 : jm_at 226 0 = some (.iload_n 1) := rfl
theorem at226_1 : jm_at 226 1 = some (.iload_n 2) := rfl
theorem at226_2 : jm_at 226 2 = some (.iload_n 3) := rfl
theorem at226_3 : jm_at 226 3 = some (.invokestatic 302) := rfl
theorem rv226i_302 : jm_rv 226 (.invokestatic 302) = (1, 220, 0, 0) := rfl
theorem u226_0 {S : Option (Nat × (Nat → Int32))} {H : jm_H} {Q : Option Value → jm_H → Prop} {r0 : Nat} {x1 x2 x3 x4 x5 : Int32} : jm_w S 7 226 0 [.ref r0, .int x1, .int x2, .int x3, .int x4, .int x5] [] H Q = jm_c S 220 [.int x1, .int x2, .int x3] H (fun v G => jm_w S 7 226 6 [.ref r0, .int x1, .int x2, .int x3, .int x4, .int x5] (v.toList ++ []) G Q) := (js1 at226_0 rfl rfl rfl).trans ((js1 at226_1 rfl rfl rfl).trans ((js1 at226_2 rfl rfl rfl).trans (jscall (H := H) (as := [.int x1, .int x2, .int x3]) (q := []) at226_3 rfl rv226i_302 (jscut rfl rfl rfl (Nat.le_of_ble_eq_true rfl)) rfl (Nat.le_of_ble_eq_true rfl) rfl rfl)))
theorem at226_6 : jm_at 226 6 = some (.ifCond .eq 13) := rfl
theorem u226_6 {S : Option (Nat × (Nat → Int32))} {H : jm_H} {Q : Option Value → jm_H → Prop} {r0 : Nat} {x1 x2 x3 x4 x5 p0 : Int32} : jm_w S 7 226 6 [.ref r0, .int x1, .int x2, .int x3, .int x4, .int x5] [.int p0] H Q = if p0 = 0 then jm_w S 7 226 19 [.ref r0, .int x1, .int x2, .int x3, .int x4, .int x5] [] H Q else jm_w S 7 226 9 [.ref r0, .int x1, .int x2, .int x3, .int x4, .int x5] [] H Q := jsif (P := p0 = 0) at226_6 rfl rfl
theorem at226_9 : jm_at 226 9 = some (.iload 4) := rfl
theorem at226_11 : jm_at 226 11 = some (.iload 5) := rfl
theorem at226_13 : jm_at 226 13 = some (.invokestatic 290) := rfl
theorem rv226i_290 : jm_rv 226 (.invokestatic 290) = (1, 217, 0, 0) := rfl
theorem u226_9 {S : Option (Nat × (Nat → Int32))} {H : jm_H} {Q : Option Value → jm_H → Prop} {r0 : Nat} {x1 x2 x3 x4 x5 : Int32} : jm_w S 7 226 9 [.ref r0, .int x1, .int x2, .int x3, .int x4, .int x5] [] H Q = jm_c S 217 [.int x4, .int x5] H (fun v G => jm_w S 7 226 16 [.ref r0, .int x1, .int x2, .int x3, .int x4, .int x5] (v.toList ++ []) G Q) := (js1 at226_9 rfl rfl rfl).trans ((js1 at226_11 rfl rfl rfl).trans (jscall (H := H) (as := [.int x4, .int x5]) (q := []) at226_13 rfl rv226i_290 (jscut rfl rfl rfl (Nat.le_of_ble_eq_true rfl)) rfl (Nat.le_of_ble_eq_true rfl) rfl rfl))
theorem at226_16 : jm_at 226 16 = some (.ifCond .ne 5) := rfl
theorem u226_16 {S : Option (Nat × (Nat → Int32))} {H : jm_H} {Q : Option Value → jm_H → Prop} {r0 : Nat} {x1 x2 x3 x4 x5 p0 : Int32} : jm_w S 7 226 16 [.ref r0, .int x1, .int x2, .int x3, .int x4, .int x5] [.int p0] H Q = if ¬ p0 = 0 then jm_w S 7 226 21 [.ref r0, .int x1, .int x2, .int x3, .int x4, .int x5] [] H Q else jm_w S 7 226 19 [.ref r0, .int x1, .int x2, .int x3, .int x4, .int x5] [] H Q := jsif (P := ¬ p0 = 0) at226_16 rfl rfl
theorem at226_19 : jm_at 226 19 = some (.iconst (-1)) := rfl
theorem at226_20 : jm_at 226 20 = some (.ireturn) := rfl
theorem u226_19 {S : Option (Nat × (Nat → Int32))} {H : jm_H} {Q : Option Value → jm_H → Prop} {r0 : Nat} {x1 x2 x3 x4 x5 : Int32} : jm_w S 7 226 19 [.ref r0, .int x1, .int x2, .int x3, .int x4, .int x5] [] H Q = Q (some (.int (-1 : Int32))) H := (jsci at226_19 rfl rfl).trans (jsret_i at226_20 rfl)
theorem at226_21 : jm_at 226 21 = some (.iload_n 1) := rfl
theorem at226_22 : jm_at 226 22 = some (.iload_n 3) := rfl
theorem at226_23 : jm_at 226 23 = some (.invokestatic 276) := rfl
theorem rv226i_276 : jm_rv 226 (.invokestatic 276) = (1, 204, 0, 0) := rfl
theorem u226_21 {S : Option (Nat × (Nat → Int32))} {H : jm_H} {Q : Option Value → jm_H → Prop} {r0 : Nat} {x1 x2 x3 x4 x5 : Int32} : jm_w S 7 226 21 [.ref r0, .int x1, .int x2, .int x3, .int x4, .int x5] [] H Q = jm_c S 204 [.int x1, .int x3] H (fun v G => jm_w S 7 226 26 [.ref r0, .int x1, .int x2, .int x3, .int x4, .int x5] (v.toList ++ []) G Q) := (js1 at226_21 rfl rfl rfl).trans ((js1 at226_22 rfl rfl rfl).trans (jscall (H := H) (as := [.int x1, .int x3]) (q := []) at226_23 rfl rv226i_276 (jscut rfl rfl rfl (Nat.le_of_ble_eq_true rfl)) rfl (Nat.le_of_ble_eq_true rfl) rfl rfl))
theorem at226_26 : jm_at 226 26 = some (.ifCond .eq 9) := rfl
theorem u226_26 {S : Option (Nat × (Nat → Int32))} {H : jm_H} {Q : Option Value → jm_H → Prop} {r0 : Nat} {x1 x2 x3 x4 x5 p0 : Int32} : jm_w S 7 226 26 [.ref r0, .int x1, .int x2, .int x3, .int x4, .int x5] [.int p0] H Q = if p0 = 0 then jm_w S 7 226 35 [.ref r0, .int x1, .int x2, .int x3, .int x4, .int x5] [] H Q else jm_w S 7 226 29 [.ref r0, .int x1, .int x2, .int x3, .int x4, .int x5] [] H Q := jsif (P := p0 = 0) at226_26 rfl rfl
theorem at226_29 : jm_at 226 29 = some (.iload 4) := rfl
theorem at226_31 : jm_at 226 31 = some (.invokestatic 280) := rfl
theorem rv226i_280 : jm_rv 226 (.invokestatic 280) = (1, 191, 0, 0) := rfl
theorem u226_29 {S : Option (Nat × (Nat → Int32))} {H : jm_H} {Q : Option Value → jm_H → Prop} {r0 : Nat} {x1 x2 x3 x4 x5 : Int32} : jm_w S 7 226 29 [.ref r0, .int x1, .int x2, .int x3, .int x4, .int x5] [] H Q = jm_c S 191 [.int x4] H (fun v G => jm_w S 7 226 34 [.ref r0, .int x1, .int x2, .int x3, .int x4, .int x5] (v.toList ++ []) G Q) := (js1 at226_29 rfl rfl rfl).trans (jscall (H := H) (as := [.int x4]) (q := []) at226_31 rfl rv226i_280 (jscut rfl rfl rfl (Nat.le_of_ble_eq_true rfl)) rfl (Nat.le_of_ble_eq_true rfl) rfl rfl)
theorem at226_34 : jm_at 226 34 = some (.ireturn) := rfl
theorem u226_34 {S : Option (Nat × (Nat → Int32))} {H : jm_H} {Q : Option Value → jm_H → Prop} {r0 : Nat} {x1 x2 x3 x4 x5 p0 : Int32} : jm_w S 7 226 34 [.ref r0, .int x1, .int x2, .int x3, .int x4, .int x5] [.int p0] H Q = Q (some (.int p0)) H := jsret_i at226_34 rfl
theorem at226_35 : jm_at 226 35 = some (.iload_n 3) := rfl
theorem at226_36 : jm_at 226 36 = some (.ifCond .ne 7) := rfl
theorem u226_35 {S : Option (Nat × (Nat → Int32))} {H : jm_H} {Q : Option Value → jm_H → Prop} {r0 : Nat} {x1 x2 x3 x4 x5 : Int32} : jm_w S 7 226 35 [.ref r0, .int x1, .int x2, .int x3, .int x4, .int x5] [] H Q = if ¬ x3 = 0 then jm_w S 7 226 43 [.ref r0, .int x1, .int x2, .int x3, .int x4, .int x5] [] H Q else jm_w S 7 226 39 [.ref r0, .int x1, .int x2, .int x3, .int x4, .int x5] [] H Q := (js1 at226_35 rfl rfl rfl).trans (jsif (P := ¬ x3 = 0) at226_36 rfl rfl)
theorem at226_39 : jm_at 226 39 = some (.iconst 0) := rfl
theorem at226_40 : jm_at 226 40 = some (.goto 15) := rfl
theorem u226_39 {S : Option (Nat × (Nat → Int32))} {H : jm_H} {Q : Option Value → jm_H → Prop} {r0 : Nat} {x1 x2 x3 x4 x5 : Int32} : jm_w S 7 226 39 [.ref r0, .int x1, .int x2, .int x3, .int x4, .int x5] [] H Q = jm_w S 7 226 55 [.ref r0, .int x1, .int x2, .int x3, .int x4, .int x5] [.int (0 : Int32)] H Q := (jsci at226_39 rfl rfl).trans (js2 at226_40 rfl rfl)
theorem at226_43 : jm_at 226 43 = some (.aload_n 0) := rfl
theorem at226_44 : jm_at 226 44 = some (.iload_n 1) := rfl
theorem at226_45 : jm_at 226 45 = some (.iload_n 2) := rfl
theorem at226_46 : jm_at 226 46 = some (.iload_n 3) := rfl
theorem at226_47 : jm_at 226 47 = some (.iload 4) := rfl
theorem at226_49 : jm_at 226 49 = some (.iload 5) := rfl
theorem at226_51 : jm_at 226 51 = some (.iconst 0) := rfl
theorem at226_52 : jm_at 226 52 = some (.invokevirtual 397) := rfl
theorem rv226i_397 : jm_rv 226 (.invokevirtual 397) = (2, 227, 0, 0) := rfl
theorem u226_43 {S : Option (Nat × (Nat → Int32))} {H : jm_H} {Q : Option Value → jm_H → Prop} {r0 : Nat} {x1 x2 x3 x4 x5 : Int32} (h0 : jm_tg H r0 = 13) : jm_w S 7 226 43 [.ref r0, .int x1, .int x2, .int x3, .int x4, .int x5] [] H Q = jm_c S 227 [.ref r0, .int x1, .int x2, .int x3, .int x4, .int x5, .int (0 : Int32)] H (fun v G => jm_w S 7 226 55 [.ref r0, .int x1, .int x2, .int x3, .int x4, .int x5] (v.toList ++ []) G Q) := (js1 at226_43 rfl rfl rfl).trans ((js1 at226_44 rfl rfl rfl).trans ((js1 at226_45 rfl rfl rfl).trans ((js1 at226_46 rfl rfl rfl).trans ((js1 at226_47 rfl rfl rfl).trans ((js1 at226_49 rfl rfl rfl).trans ((jsci at226_51 rfl rfl).trans (jscall (H := H) (as := [.ref r0, .int x1, .int x2, .int x3, .int x4, .int x5, .int (0 : Int32)]) (q := []) at226_52 rfl rv226i_397 (jscutV rfl rfl rfl (Nat.le_of_ble_eq_true rfl) rfl h0) rfl (Nat.le_of_ble_eq_true rfl) rfl rfl)))))))
theorem at226_55 : jm_at 226 55 = some (.ireturn) := rfl
theorem u226_55 {S : Option (Nat × (Nat → Int32))} {H : jm_H} {Q : Option Value → jm_H → Prop} {r0 : Nat} {x1 x2 x3 x4 x5 p0 : Int32} : jm_w S 7 226 55 [.ref r0, .int x1, .int x2, .int x3, .int x4, .int x5] [.int p0] H Q = Q (some (.int p0)) H := jsret_i at226_55 rfl
theorem en226 {S : Option (Nat × (Nat → Int32))} {H : jm_H} {Q : Option Value → jm_H → Prop} {r0 : Nat} {x1 x2 x3 x4 x5 : Int32} : jm_c S 226 [.ref r0, .int x1, .int x2, .int x3, .int x4, .int x5] H Q = jm_w S 7 226 0 [.ref r0, .int x1, .int x2, .int x3, .int x4, .int x5] [] H Q := rfl
theorem at227_0 : jm_at 227 0 = some (.iload_n 1) := rfl
theorem at227_1 : jm_at 227 1 = some (.iload_n 3) := rfl
theorem at227_2 : jm_at 227 2 = some (.invokestatic 348) := rfl
theorem rv227i_348 : jm_rv 227 (.invokestatic 348) = (1, 206, 0, 0) := rfl
theorem u227_0 {S : Option (Nat × (Nat → Int32))} {H : jm_H} {Q : Option Value → jm_H → Prop} {r0 : Nat} {x1 x2 x3 x4 x5 x6 : Int32} : jm_w S 6 227 0 [.ref r0, .int x1, .int x2, .int x3, .int x4, .int x5, .int x6, .null] [] H Q = jm_c S 206 [.int x1, .int x3] H (fun v G => jm_w S 6 227 5 [.ref r0, .int x1, .int x2, .int x3, .int x4, .int x5, .int x6, .null] (v.toList ++ []) G Q) := (js1 at227_0 rfl rfl rfl).trans ((js1 at227_1 rfl rfl rfl).trans (jscall (H := H) (as := [.int x1, .int x3]) (q := []) at227_2 rfl rv227i_348 (jscut rfl rfl rfl (Nat.le_of_ble_eq_true rfl)) rfl (Nat.le_of_ble_eq_true rfl) rfl rfl))
theorem at227_5 : jm_at 227 5 = some (.istore 7) := rfl
theorem at227_7 : jm_at 227 7 = some (.aload_n 0) := rfl
theorem at227_8 : jm_at 227 8 = some (.iload_n 1) := rfl
theorem at227_9 : jm_at 227 9 = some (.iload_n 2) := rfl
theorem at227_10 : jm_at 227 10 = some (.iload_n 3) := rfl
theorem at227_11 : jm_at 227 11 = some (.invokevirtual 345) := rfl
theorem rv227i_345 : jm_rv 227 (.invokevirtual 345) = (2, 193, 0, 0) := rfl
theorem u227_5 {S : Option (Nat × (Nat → Int32))} {H : jm_H} {Q : Option Value → jm_H → Prop} {r0 : Nat} {x1 x2 x3 x4 x5 x6 p0 : Int32} (h0 : jm_tg H r0 = 13) : jm_w S 6 227 5 [.ref r0, .int x1, .int x2, .int x3, .int x4, .int x5, .int x6, .null] [.int p0] H Q = jm_c S 193 [.ref r0, .int x1, .int x2, .int x3] H (fun v G => jm_w S 6 227 14 [.ref r0, .int x1, .int x2, .int x3, .int x4, .int x5, .int x6, .int p0] (v.toList ++ []) G Q) := (js1 at227_5 rfl rfl rfl).trans ((js1 at227_7 rfl rfl rfl).trans ((js1 at227_8 rfl rfl rfl).trans ((js1 at227_9 rfl rfl rfl).trans ((js1 at227_10 rfl rfl rfl).trans (jscall (H := H) (as := [.ref r0, .int x1, .int x2, .int x3]) (q := []) at227_11 rfl rv227i_345 (jscutV rfl rfl rfl (Nat.le_of_ble_eq_true rfl) rfl h0) rfl (Nat.le_of_ble_eq_true rfl) rfl rfl)))))
theorem at227_14 : jm_at 227 14 = some (.aload_n 0) := rfl
theorem at227_15 : jm_at 227 15 = some (.iload 4) := rfl
theorem at227_17 : jm_at 227 17 = some (.iload 5) := rfl
theorem at227_19 : jm_at 227 19 = some (.aload_n 0) := rfl
theorem at227_20 : jm_at 227 20 = some (.getfield 328) := rfl
theorem rv227g_328 : jm_rv 227 (.getfield 328) = (0, 12, 48, 0) := rfl
theorem at227_23 : jm_at 227 23 = some (.i2l) := rfl
theorem at227_24 : jm_at 227 24 = some (.aload_n 0) := rfl
theorem at227_25 : jm_at 227 25 = some (.getfield 331) := rfl
theorem rv227g_331 : jm_rv 227 (.getfield 331) = (0, 12, 49, 0) := rfl
theorem at227_28 : jm_at 227 28 = some (.iload 6) := rfl
theorem at227_30 : jm_at 227 30 = some (.isub) := rfl
theorem at227_31 : jm_at 227 31 = some (.lconst 1) := rfl
theorem at227_32 : jm_at 227 32 = some (.iconst 0) := rfl
theorem at227_33 : jm_at 227 33 = some (.iload 7) := rfl
theorem at227_35 : jm_at 227 35 = some (.invokevirtual 389) := rfl
theorem rv227i_389 : jm_rv 227 (.invokevirtual 389) = (2, 189, 0, 0) := rfl
theorem u227_14 {S : Option (Nat × (Nat → Int32))} {H : jm_H} {Q : Option Value → jm_H → Prop} {r0 : Nat} {x1 x2 x3 x4 x5 x6 x7 : Int32} (h0 : jm_tg H r0 = 13) : jm_w S 6 227 14 [.ref r0, .int x1, .int x2, .int x3, .int x4, .int x5, .int x6, .int x7] [] H Q = jm_c S 189 [.ref r0, .int x4, .int x5, .long (Int32.toInt64 (jm_I H r0 48)), .int ((jm_I H r0 49) - x6), .long (1 : Int64), .int (0 : Int32), .int x7] H (fun v G => jm_w S 6 227 38 [.ref r0, .int x1, .int x2, .int x3, .int x4, .int x5, .int x6, .int x7] (v.toList ++ []) G Q) := (js1 at227_14 rfl rfl rfl).trans ((js1 at227_15 rfl rfl rfl).trans ((js1 at227_17 rfl rfl rfl).trans ((js1 at227_19 rfl rfl rfl).trans ((jsgI (H := H) at227_20 rv227g_328 (Or.inl rfl) h0 rfl).trans ((js0 at227_23 rfl rfl rfl).trans ((js1 at227_24 rfl rfl rfl).trans ((jsgI (H := H) at227_25 rv227g_331 (Or.inl rfl) h0 rfl).trans ((js1 at227_28 rfl rfl rfl).trans ((js0 at227_30 rfl rfl rfl).trans ((jscl at227_31 rfl rfl).trans ((jsci at227_32 rfl rfl).trans ((js1 at227_33 rfl rfl rfl).trans (jscall (H := H) (as := [.ref r0, .int x4, .int x5, .long (Int32.toInt64 (jm_I H r0 48)), .int ((jm_I H r0 49) - x6), .long (1 : Int64), .int (0 : Int32), .int x7]) (q := []) at227_35 rfl rv227i_389 (jscutV rfl rfl rfl (Nat.le_of_ble_eq_true rfl) rfl h0) rfl (Nat.le_of_ble_eq_true rfl) rfl rfl)))))))))))))
theorem at227_38 : jm_at 227 38 = some (.ireturn) := rfl
theorem u227_38 {S : Option (Nat × (Nat → Int32))} {H : jm_H} {Q : Option Value → jm_H → Prop} {r0 : Nat} {x1 x2 x3 x4 x5 x6 x7 p0 : Int32} : jm_w S 6 227 38 [.ref r0, .int x1, .int x2, .int x3, .int x4, .int x5, .int x6, .int x7] [.int p0] H Q = Q (some (.int p0)) H := jsret_i at227_38 rfl
theorem en227 {S : Option (Nat × (Nat → Int32))} {H : jm_H} {Q : Option Value → jm_H → Prop} {r0 : Nat} {x1 x2 x3 x4 x5 x6 : Int32} : jm_c S 227 [.ref r0, .int x1, .int x2, .int x3, .int x4, .int x5, .int x6] H Q = jm_w S 6 227 0 [.ref r0, .int x1, .int x2, .int x3, .int x4, .int x5, .int x6, .null] [] H Q := rfl
theorem at228_0 : jm_at 228 0 = some (.iload_n 1) := rfl
theorem at228_1 : jm_at 228 1 = some (.iload_n 2) := rfl
theorem at228_2 : jm_at 228 2 = some (.invokestatic 290) := rfl
theorem rv228i_290 : jm_rv 228 (.invokestatic 290) = (1, 217, 0, 0) := rfl
theorem u228_0 {S : Option (Nat × (Nat → Int32))} {H : jm_H} {Q : Option Value → jm_H → Prop} {r0 : Nat} {x1 x2 x3 x4 : Int32} : jm_w S 6 228 0 [.ref r0, .int x1, .int x2, .int x3, .int x4] [] H Q = jm_c S 217 [.int x1, .int x2] H (fun v G => jm_w S 6 228 5 [.ref r0, .int x1, .int x2, .int x3, .int x4] (v.toList ++ []) G Q) := (js1 at228_0 rfl rfl rfl).trans ((js1 at228_1 rfl rfl rfl).trans (jscall (H := H) (as := [.int x1, .int x2]) (q := []) at228_2 rfl rv228i_290 (jscut rfl rfl rfl (Nat.le_of_ble_eq_true rfl)) rfl (Nat.le_of_ble_eq_true rfl) rfl rfl))
theorem at228_5 : jm_at 228 5 = some (.ifCond .eq 30) := rfl
theorem u228_5 {S : Option (Nat × (Nat → Int32))} {H : jm_H} {Q : Option Value → jm_H → Prop} {r0 : Nat} {x1 x2 x3 x4 p0 : Int32} : jm_w S 6 228 5 [.ref r0, .int x1, .int x2, .int x3, .int x4] [.int p0] H Q = if p0 = 0 then jm_w S 6 228 35 [.ref r0, .int x1, .int x2, .int x3, .int x4] [] H Q else jm_w S 6 228 8 [.ref r0, .int x1, .int x2, .int x3, .int x4] [] H Q := jsif (P := p0 = 0) at228_5 rfl rfl
theorem at228_8 : jm_at 228 8 = some (.iload_n 3) := rfl
theorem at228_9 : jm_at 228 9 = some (.ldc_w 401) := rfl
theorem rv228l_401 : jm_rv 228 (.ldc_w 401) = (8, 0, 0, (-1000000)) := rfl
theorem at228_12 : jm_at 228 12 = some (.ldc_w 402) := rfl
theorem rv228l_402 : jm_rv 228 (.ldc_w 402) = (8, 0, 0, 1000000) := rfl
theorem at228_15 : jm_at 228 15 = some (.invokestatic 218) := rfl
theorem rv228i_218 : jm_rv 228 (.invokestatic 218) = (1, 176, 0, 0) := rfl
theorem u228_8 {S : Option (Nat × (Nat → Int32))} {H : jm_H} {Q : Option Value → jm_H → Prop} {r0 : Nat} {x1 x2 x3 x4 : Int32} : jm_w S 6 228 8 [.ref r0, .int x1, .int x2, .int x3, .int x4] [] H Q = jm_c S 176 [.int x3, .int (-1000000 : Int32), .int (1000000 : Int32)] H (fun v G => jm_w S 6 228 18 [.ref r0, .int x1, .int x2, .int x3, .int x4] (v.toList ++ []) G Q) := (js1 at228_8 rfl rfl rfl).trans ((jskw at228_9 rv228l_401 rfl rfl).trans ((jskw at228_12 rv228l_402 rfl rfl).trans (jscall (H := H) (as := [.int x3, .int (-1000000 : Int32), .int (1000000 : Int32)]) (q := []) at228_15 rfl rv228i_218 (jscut rfl rfl rfl (Nat.le_of_ble_eq_true rfl)) rfl (Nat.le_of_ble_eq_true rfl) rfl rfl)))
theorem at228_18 : jm_at 228 18 = some (.ifCond .eq 17) := rfl
theorem u228_18 {S : Option (Nat × (Nat → Int32))} {H : jm_H} {Q : Option Value → jm_H → Prop} {r0 : Nat} {x1 x2 x3 x4 p0 : Int32} : jm_w S 6 228 18 [.ref r0, .int x1, .int x2, .int x3, .int x4] [.int p0] H Q = if p0 = 0 then jm_w S 6 228 35 [.ref r0, .int x1, .int x2, .int x3, .int x4] [] H Q else jm_w S 6 228 21 [.ref r0, .int x1, .int x2, .int x3, .int x4] [] H Q := jsif (P := p0 = 0) at228_18 rfl rfl
theorem at228_21 : jm_at 228 21 = some (.iload 4) := rfl
theorem at228_23 : jm_at 228 23 = some (.ldc_w 401) := rfl
theorem at228_26 : jm_at 228 26 = some (.ldc_w 402) := rfl
theorem at228_29 : jm_at 228 29 = some (.invokestatic 218) := rfl
theorem u228_21 {S : Option (Nat × (Nat → Int32))} {H : jm_H} {Q : Option Value → jm_H → Prop} {r0 : Nat} {x1 x2 x3 x4 : Int32} : jm_w S 6 228 21 [.ref r0, .int x1, .int x2, .int x3, .int x4] [] H Q = jm_c S 176 [.int x4, .int (-1000000 : Int32), .int (1000000 : Int32)] H (fun v G => jm_w S 6 228 32 [.ref r0, .int x1, .int x2, .int x3, .int x4] (v.toList ++ []) G Q) := (js1 at228_21 rfl rfl rfl).trans ((jskw at228_23 rv228l_401 rfl rfl).trans ((jskw at228_26 rv228l_402 rfl rfl).trans (jscall (H := H) (as := [.int x4, .int (-1000000 : Int32), .int (1000000 : Int32)]) (q := []) at228_29 rfl rv228i_218 (jscut rfl rfl rfl (Nat.le_of_ble_eq_true rfl)) rfl (Nat.le_of_ble_eq_true rfl) rfl rfl)))
theorem at228_32 : jm_at 228 32 = some (.ifCond .ne 5) := rfl
theorem u228_32 {S : Option (Nat × (Nat → Int32))} {H : jm_H} {Q : Option Value → jm_H → Prop} {r0 : Nat} {x1 x2 x3 x4 p0 : Int32} : jm_w S 6 228 32 [.ref r0, .int x1, .int x2, .int x3, .int x4] [.int p0] H Q = if ¬ p0 = 0 then jm_w S 6 228 37 [.ref r0, .int x1, .int x2, .int x3, .int x4] [] H Q else jm_w S 6 228 35 [.ref r0, .int x1, .int x2, .int x3, .int x4] [] H Q := jsif (P := ¬ p0 = 0) at228_32 rfl rfl
theorem at228_35 : jm_at 228 35 = some (.iconst (-1)) := rfl
theorem at228_36 : jm_at 228 36 = some (.ireturn) := rfl
theorem u228_35 {S : Option (Nat × (Nat → Int32))} {H : jm_H} {Q : Option Value → jm_H → Prop} {r0 : Nat} {x1 x2 x3 x4 : Int32} : jm_w S 6 228 35 [.ref r0, .int x1, .int x2, .int x3, .int x4] [] H Q = Q (some (.int (-1 : Int32))) H := (jsci at228_35 rfl rfl).trans (jsret_i at228_36 rfl)
theorem at228_37 : jm_at 228 37 = some (.iload 4) := rfl
theorem at228_39 : jm_at 228 39 = some (.ifCond .ne 8) := rfl
theorem u228_37 {S : Option (Nat × (Nat → Int32))} {H : jm_H} {Q : Option Value → jm_H → Prop} {r0 : Nat} {x1 x2 x3 x4 : Int32} : jm_w S 6 228 37 [.ref r0, .int x1, .int x2, .int x3, .int x4] [] H Q = if ¬ x4 = 0 then jm_w S 6 228 47 [.ref r0, .int x1, .int x2, .int x3, .int x4] [] H Q else jm_w S 6 228 42 [.ref r0, .int x1, .int x2, .int x3, .int x4] [] H Q := (js1 at228_37 rfl rfl rfl).trans (jsif (P := ¬ x4 = 0) at228_39 rfl rfl)
theorem at228_42 : jm_at 228 42 = some (.iload_n 1) := rfl
theorem at228_43 : jm_at 228 43 = some (.invokestatic 280) := rfl
theorem rv228i_280 : jm_rv 228 (.invokestatic 280) = (1, 191, 0, 0) := rfl
theorem u228_42 {S : Option (Nat × (Nat → Int32))} {H : jm_H} {Q : Option Value → jm_H → Prop} {r0 : Nat} {x1 x2 x3 x4 : Int32} : jm_w S 6 228 42 [.ref r0, .int x1, .int x2, .int x3, .int x4] [] H Q = jm_c S 191 [.int x1] H (fun v G => jm_w S 6 228 46 [.ref r0, .int x1, .int x2, .int x3, .int x4] (v.toList ++ []) G Q) := (js1 at228_42 rfl rfl rfl).trans (jscall (H := H) (as := [.int x1]) (q := []) at228_43 rfl rv228i_280 (jscut rfl rfl rfl (Nat.le_of_ble_eq_true rfl)) rfl (Nat.le_of_ble_eq_true rfl) rfl rfl)
theorem at228_46 : jm_at 228 46 = some (.ireturn) := rfl
theorem u228_46 {S : Option (Nat × (Nat → Int32))} {H : jm_H} {Q : Option Value → jm_H → Prop} {r0 : Nat} {x1 x2 x3 x4 p0 : Int32} : jm_w S 6 228 46 [.ref r0, .int x1, .int x2, .int x3, .int x4] [.int p0] H Q = Q (some (.int p0)) H := jsret_i at228_46 rfl
theorem at228_47 : jm_at 228 47 = some (.aload_n 0) := rfl
theorem at228_48 : jm_at 228 48 = some (.iload_n 1) := rfl
theorem at228_49 : jm_at 228 49 = some (.iload_n 2) := rfl
theorem at228_50 : jm_at 228 50 = some (.iload_n 3) := rfl
theorem at228_51 : jm_at 228 51 = some (.ifCond .ge 9) := rfl
theorem u228_47 {S : Option (Nat × (Nat → Int32))} {H : jm_H} {Q : Option Value → jm_H → Prop} {r0 : Nat} {x1 x2 x3 x4 : Int32} : jm_w S 6 228 47 [.ref r0, .int x1, .int x2, .int x3, .int x4] [] H Q = if 0 ≤ x3 then jm_w S 6 228 60 [.ref r0, .int x1, .int x2, .int x3, .int x4] [.int x2, .int x1, .ref r0] H Q else jm_w S 6 228 54 [.ref r0, .int x1, .int x2, .int x3, .int x4] [.int x2, .int x1, .ref r0] H Q := (js1 at228_47 rfl rfl rfl).trans ((js1 at228_48 rfl rfl rfl).trans ((js1 at228_49 rfl rfl rfl).trans ((js1 at228_50 rfl rfl rfl).trans (jsif (P := 0 ≤ x3) at228_51 rfl rfl))))
theorem at228_54 : jm_at 228 54 = some (.iload_n 3) := rfl
theorem at228_55 : jm_at 228 55 = some (.ineg) := rfl
theorem at228_56 : jm_at 228 56 = some (.i2l) := rfl
theorem at228_57 : jm_at 228 57 = some (.goto 5) := rfl
theorem u228_54 {S : Option (Nat × (Nat → Int32))} {H : jm_H} {Q : Option Value → jm_H → Prop} {r0 o0 : Nat} {x1 x2 x3 x4 p1 p2 : Int32} : jm_w S 6 228 54 [.ref r0, .int x1, .int x2, .int x3, .int x4] [.int p2, .int p1, .ref o0] H Q = jm_w S 6 228 62 [.ref r0, .int x1, .int x2, .int x3, .int x4] [.long (Int32.toInt64 (-x3)), .int p2, .int p1, .ref o0] H Q := (js1 at228_54 rfl rfl rfl).trans ((js0 at228_55 rfl rfl rfl).trans ((js0 at228_56 rfl rfl rfl).trans (js2 at228_57 rfl rfl)))
theorem at228_60 : jm_at 228 60 = some (.iload_n 3) := rfl
theorem at228_61 : jm_at 228 61 = some (.i2l) := rfl
theorem u228_60 {S : Option (Nat × (Nat → Int32))} {H : jm_H} {Q : Option Value → jm_H → Prop} {r0 o0 : Nat} {x1 x2 x3 x4 p1 p2 : Int32} : jm_w S 6 228 60 [.ref r0, .int x1, .int x2, .int x3, .int x4] [.int p2, .int p1, .ref o0] H Q = jm_w S 6 228 62 [.ref r0, .int x1, .int x2, .int x3, .int x4] [.long (Int32.toInt64 x3), .int p2, .int p1, .ref o0] H Q := (js1 at228_60 rfl rfl rfl).trans (js0 at228_61 rfl rfl rfl)
theorem at228_62 : jm_at 228 62 = some (.iconst 0) := rfl
theorem at228_63 : jm_at 228 63 = some (.iload 4) := rfl
theorem at228_65 : jm_at 228 65 = some (.ifCond .ge 10) := rfl
theorem u228_62 {S : Option (Nat × (Nat → Int32))} {H : jm_H} {Q : Option Value → jm_H → Prop} {r0 o0 : Nat} {x1 x2 x3 x4 p1 p2 : Int32} {q3 : Int64} : jm_w S 6 228 62 [.ref r0, .int x1, .int x2, .int x3, .int x4] [.long q3, .int p2, .int p1, .ref o0] H Q = if 0 ≤ x4 then jm_w S 6 228 75 [.ref r0, .int x1, .int x2, .int x3, .int x4] [.int (0 : Int32), .long q3, .int p2, .int p1, .ref o0] H Q else jm_w S 6 228 68 [.ref r0, .int x1, .int x2, .int x3, .int x4] [.int (0 : Int32), .long q3, .int p2, .int p1, .ref o0] H Q := (jsci at228_62 rfl rfl).trans ((js1 at228_63 rfl rfl rfl).trans (jsif (P := 0 ≤ x4) at228_65 rfl rfl))
theorem at228_68 : jm_at 228 68 = some (.iload 4) := rfl
theorem at228_70 : jm_at 228 70 = some (.ineg) := rfl
theorem at228_71 : jm_at 228 71 = some (.i2l) := rfl
theorem at228_72 : jm_at 228 72 = some (.goto 6) := rfl
theorem u228_68 {S : Option (Nat × (Nat → Int32))} {H : jm_H} {Q : Option Value → jm_H → Prop} {r0 o0 : Nat} {x1 x2 x3 x4 p1 p2 p4 : Int32} {q3 : Int64} : jm_w S 6 228 68 [.ref r0, .int x1, .int x2, .int x3, .int x4] [.int p4, .long q3, .int p2, .int p1, .ref o0] H Q = jm_w S 6 228 78 [.ref r0, .int x1, .int x2, .int x3, .int x4] [.long (Int32.toInt64 (-x4)), .int p4, .long q3, .int p2, .int p1, .ref o0] H Q := (js1 at228_68 rfl rfl rfl).trans ((js0 at228_70 rfl rfl rfl).trans ((js0 at228_71 rfl rfl rfl).trans (js2 at228_72 rfl rfl)))
theorem at228_75 : jm_at 228 75 = some (.iload 4) := rfl
theorem at228_77 : jm_at 228 77 = some (.i2l) := rfl
theorem u228_75 {S : Option (Nat × (Nat → Int32))} {H : jm_H} {Q : Option Value → jm_H → Prop} {r0 o0 : Nat} {x1 x2 x3 x4 p1 p2 p4 : Int32} {q3 : Int64} : jm_w S 6 228 75 [.ref r0, .int x1, .int x2, .int x3, .int x4] [.int p4, .long q3, .int p2, .int p1, .ref o0] H Q = jm_w S 6 228 78 [.ref r0, .int x1, .int x2, .int x3, .int x4] [.long (Int32.toInt64 x4), .int p4, .long q3, .int p2, .int p1, .ref o0] H Q := (js1 at228_75 rfl rfl rfl).trans (js0 at228_77 rfl rfl rfl)
theorem at228_78 : jm_at 228 78 = some (.iconst 0) := rfl
theorem at228_79 : jm_at 228 79 = some (.iload_n 3) := rfl
theorem at228_80 : jm_at 228 80 = some (.ifCond .ge 7) := rfl
theorem u228_78 {S : Option (Nat × (Nat → Int32))} {H : jm_H} {Q : Option Value → jm_H → Prop} {r0 o0 : Nat} {x1 x2 x3 x4 p1 p2 p4 : Int32} {q3 q5 : Int64} : jm_w S 6 228 78 [.ref r0, .int x1, .int x2, .int x3, .int x4] [.long q5, .int p4, .long q3, .int p2, .int p1, .ref o0] H Q = if 0 ≤ x3 then jm_w S 6 228 87 [.ref r0, .int x1, .int x2, .int x3, .int x4] [.int (0 : Int32), .long q5, .int p4, .long q3, .int p2, .int p1, .ref o0] H Q else jm_w S 6 228 83 [.ref r0, .int x1, .int x2, .int x3, .int x4] [.int (0 : Int32), .long q5, .int p4, .long q3, .int p2, .int p1, .ref o0] H Q := (jsci at228_78 rfl rfl).trans ((js1 at228_79 rfl rfl rfl).trans (jsif (P := 0 ≤ x3) at228_80 rfl rfl))
theorem at228_83 : jm_at 228 83 = some (.iconst 1) := rfl
theorem at228_84 : jm_at 228 84 = some (.goto 4) := rfl
theorem u228_83 {S : Option (Nat × (Nat → Int32))} {H : jm_H} {Q : Option Value → jm_H → Prop} {r0 o0 : Nat} {x1 x2 x3 x4 p1 p2 p4 p6 : Int32} {q3 q5 : Int64} : jm_w S 6 228 83 [.ref r0, .int x1, .int x2, .int x3, .int x4] [.int p6, .long q5, .int p4, .long q3, .int p2, .int p1, .ref o0] H Q = jm_w S 6 228 88 [.ref r0, .int x1, .int x2, .int x3, .int x4] [.int (1 : Int32), .int p6, .long q5, .int p4, .long q3, .int p2, .int p1, .ref o0] H Q := (jsci at228_83 rfl rfl).trans (js2 at228_84 rfl rfl)
theorem at228_87 : jm_at 228 87 = some (.iconst 0) := rfl
theorem u228_87 {S : Option (Nat × (Nat → Int32))} {H : jm_H} {Q : Option Value → jm_H → Prop} {r0 o0 : Nat} {x1 x2 x3 x4 p1 p2 p4 p6 : Int32} {q3 q5 : Int64} : jm_w S 6 228 87 [.ref r0, .int x1, .int x2, .int x3, .int x4] [.int p6, .long q5, .int p4, .long q3, .int p2, .int p1, .ref o0] H Q = jm_w S 6 228 88 [.ref r0, .int x1, .int x2, .int x3, .int x4] [.int (0 : Int32), .int p6, .long q5, .int p4, .long q3, .int p2, .int p1, .ref o0] H Q := jsci at228_87 rfl rfl
theorem at228_88 : jm_at 228 88 = some (.iload 4) := rfl
theorem at228_90 : jm_at 228 90 = some (.ifCond .ge 7) := rfl
theorem u228_88 {S : Option (Nat × (Nat → Int32))} {H : jm_H} {Q : Option Value → jm_H → Prop} {r0 o0 : Nat} {x1 x2 x3 x4 p1 p2 p4 p6 p7 : Int32} {q3 q5 : Int64} : jm_w S 6 228 88 [.ref r0, .int x1, .int x2, .int x3, .int x4] [.int p7, .int p6, .long q5, .int p4, .long q3, .int p2, .int p1, .ref o0] H Q = if 0 ≤ x4 then jm_w S 6 228 97 [.ref r0, .int x1, .int x2, .int x3, .int x4] [.int p7, .int p6, .long q5, .int p4, .long q3, .int p2, .int p1, .ref o0] H Q else jm_w S 6 228 93 [.ref r0, .int x1, .int x2, .int x3, .int x4] [.int p7, .int p6, .long q5, .int p4, .long q3, .int p2, .int p1, .ref o0] H Q := (js1 at228_88 rfl rfl rfl).trans (jsif (P := 0 ≤ x4) at228_90 rfl rfl)
theorem at228_93 : jm_at 228 93 = some (.iconst 1) := rfl
theorem at228_94 : jm_at 228 94 = some (.goto 4) := rfl
theorem u228_93 {S : Option (Nat × (Nat → Int32))} {H : jm_H} {Q : Option Value → jm_H → Prop} {r0 o0 : Nat} {x1 x2 x3 x4 p1 p2 p4 p6 p7 : Int32} {q3 q5 : Int64} : jm_w S 6 228 93 [.ref r0, .int x1, .int x2, .int x3, .int x4] [.int p7, .int p6, .long q5, .int p4, .long q3, .int p2, .int p1, .ref o0] H Q = jm_w S 6 228 98 [.ref r0, .int x1, .int x2, .int x3, .int x4] [.int (1 : Int32), .int p7, .int p6, .long q5, .int p4, .long q3, .int p2, .int p1, .ref o0] H Q := (jsci at228_93 rfl rfl).trans (js2 at228_94 rfl rfl)
theorem at228_97 : jm_at 228 97 = some (.iconst 0) := rfl
theorem u228_97 {S : Option (Nat × (Nat → Int32))} {H : jm_H} {Q : Option Value → jm_H → Prop} {r0 o0 : Nat} {x1 x2 x3 x4 p1 p2 p4 p6 p7 : Int32} {q3 q5 : Int64} : jm_w S 6 228 97 [.ref r0, .int x1, .int x2, .int x3, .int x4] [.int p7, .int p6, .long q5, .int p4, .long q3, .int p2, .int p1, .ref o0] H Q = jm_w S 6 228 98 [.ref r0, .int x1, .int x2, .int x3, .int x4] [.int (0 : Int32), .int p7, .int p6, .long q5, .int p4, .long q3, .int p2, .int p1, .ref o0] H Q := jsci at228_97 rfl rfl
theorem at228_98 : jm_at 228 98 = some (.if_icmp .ne 7) := rfl
theorem u228_98 {S : Option (Nat × (Nat → Int32))} {H : jm_H} {Q : Option Value → jm_H → Prop} {r0 o0 : Nat} {x1 x2 x3 x4 p1 p2 p4 p6 p7 p8 : Int32} {q3 q5 : Int64} : jm_w S 6 228 98 [.ref r0, .int x1, .int x2, .int x3, .int x4] [.int p8, .int p7, .int p6, .long q5, .int p4, .long q3, .int p2, .int p1, .ref o0] H Q = if ¬ p7 = p8 then jm_w S 6 228 105 [.ref r0, .int x1, .int x2, .int x3, .int x4] [.int p6, .long q5, .int p4, .long q3, .int p2, .int p1, .ref o0] H Q else jm_w S 6 228 101 [.ref r0, .int x1, .int x2, .int x3, .int x4] [.int p6, .long q5, .int p4, .long q3, .int p2, .int p1, .ref o0] H Q := jsif (P := ¬ p7 = p8) at228_98 rfl rfl
theorem at228_101 : jm_at 228 101 = some (.iconst 1) := rfl
theorem at228_102 : jm_at 228 102 = some (.goto 4) := rfl
theorem u228_101 {S : Option (Nat × (Nat → Int32))} {H : jm_H} {Q : Option Value → jm_H → Prop} {r0 o0 : Nat} {x1 x2 x3 x4 p1 p2 p4 p6 : Int32} {q3 q5 : Int64} : jm_w S 6 228 101 [.ref r0, .int x1, .int x2, .int x3, .int x4] [.int p6, .long q5, .int p4, .long q3, .int p2, .int p1, .ref o0] H Q = jm_w S 6 228 106 [.ref r0, .int x1, .int x2, .int x3, .int x4] [.int (1 : Int32), .int p6, .long q5, .int p4, .long q3, .int p2, .int p1, .ref o0] H Q := (jsci at228_101 rfl rfl).trans (js2 at228_102 rfl rfl)
theorem at228_105 : jm_at 228 105 = some (.iconst (-1)) := rfl
theorem u228_105 {S : Option (Nat × (Nat → Int32))} {H : jm_H} {Q : Option Value → jm_H → Prop} {r0 o0 : Nat} {x1 x2 x3 x4 p1 p2 p4 p6 : Int32} {q3 q5 : Int64} : jm_w S 6 228 105 [.ref r0, .int x1, .int x2, .int x3, .int x4] [.int p6, .long q5, .int p4, .long q3, .int p2, .int p1, .ref o0] H Q = jm_w S 6 228 106 [.ref r0, .int x1, .int x2, .int x3, .int x4] [.int (-1 : Int32), .int p6, .long q5, .int p4, .long q3, .int p2, .int p1, .ref o0] H Q := jsci at228_105 rfl rfl
theorem at228_106 : jm_at 228 106 = some (.invokevirtual 389) := rfl
theorem rv228i_389 : jm_rv 228 (.invokevirtual 389) = (2, 189, 0, 0) := rfl
theorem u228_106 {S : Option (Nat × (Nat → Int32))} {H : jm_H} {Q : Option Value → jm_H → Prop} {r0 o0 : Nat} {x1 x2 x3 x4 p1 p2 p4 p6 p7 : Int32} {q3 q5 : Int64} (h0 : jm_tg H o0 = 13) : jm_w S 6 228 106 [.ref r0, .int x1, .int x2, .int x3, .int x4] [.int p7, .int p6, .long q5, .int p4, .long q3, .int p2, .int p1, .ref o0] H Q = jm_c S 189 [.ref o0, .int p1, .int p2, .long q3, .int p4, .long q5, .int p6, .int p7] H (fun v G => jm_w S 6 228 109 [.ref r0, .int x1, .int x2, .int x3, .int x4] (v.toList ++ []) G Q) := jscall (H := H) (as := [.ref o0, .int p1, .int p2, .long q3, .int p4, .long q5, .int p6, .int p7]) (q := []) at228_106 rfl rv228i_389 (jscutV rfl rfl rfl (Nat.le_of_ble_eq_true rfl) rfl h0) rfl (Nat.le_of_ble_eq_true rfl) rfl rfl
theorem at228_109 : jm_at 228 109 = some (.ireturn) := rfl
theorem u228_109 {S : Option (Nat × (Nat → Int32))} {H : jm_H} {Q : Option Value → jm_H → Prop} {r0 : Nat} {x1 x2 x3 x4 p0 : Int32} : jm_w S 6 228 109 [.ref r0, .int x1, .int x2, .int x3, .int x4] [.int p0] H Q = Q (some (.int p0)) H := jsret_i at228_109 rfl
theorem en228 {S : Option (Nat × (Nat → Int32))} {H : jm_H} {Q : Option Value → jm_H → Prop} {r0 : Nat} {x1 x2 x3 x4 : Int32} : jm_c S 228 [.ref r0, .int x1, .int x2, .int x3, .int x4] H Q = jm_w S 6 228 0 [.ref r0, .int x1, .int x2, .int x3, .int x4] [] H Q := rfl
theorem at229_0 : jm_at 229 0 = some (.iload_n 1) := rfl
theorem at229_1 : jm_at 229 1 = some (.iload_n 2) := rfl
theorem at229_2 : jm_at 229 2 = some (.iload_n 3) := rfl
theorem at229_3 : jm_at 229 3 = some (.invokestatic 302) := rfl
theorem rv229i_302 : jm_rv 229 (.invokestatic 302) = (1, 220, 0, 0) := rfl
theorem u229_0 {S : Option (Nat × (Nat → Int32))} {H : jm_H} {Q : Option Value → jm_H → Prop} {r0 : Nat} {x1 x2 x3 x4 x5 : Int32} : jm_w S 6 229 0 [.ref r0, .int x1, .int x2, .int x3, .int x4, .int x5] [] H Q = jm_c S 220 [.int x1, .int x2, .int x3] H (fun v G => jm_w S 6 229 6 [.ref r0, .int x1, .int x2, .int x3, .int x4, .int x5] (v.toList ++ []) G Q) := (js1 at229_0 rfl rfl rfl).trans ((js1 at229_1 rfl rfl rfl).trans ((js1 at229_2 rfl rfl rfl).trans (jscall (H := H) (as := [.int x1, .int x2, .int x3]) (q := []) at229_3 rfl rv229i_302 (jscut rfl rfl rfl (Nat.le_of_ble_eq_true rfl)) rfl (Nat.le_of_ble_eq_true rfl) rfl rfl)))
theorem at229_6 : jm_at 229 6 = some (.ifCond .eq 23) := rfl
theorem u229_6 {S : Option (Nat × (Nat → Int32))} {H : jm_H} {Q : Option Value → jm_H → Prop} {r0 : Nat} {x1 x2 x3 x4 x5 p0 : Int32} : jm_w S 6 229 6 [.ref r0, .int x1, .int x2, .int x3, .int x4, .int x5] [.int p0] H Q = if p0 = 0 then jm_w S 6 229 29 [.ref r0, .int x1, .int x2, .int x3, .int x4, .int x5] [] H Q else jm_w S 6 229 9 [.ref r0, .int x1, .int x2, .int x3, .int x4, .int x5] [] H Q := jsif (P := p0 = 0) at229_6 rfl rfl
theorem at229_9 : jm_at 229 9 = some (.iload_n 1) := rfl
theorem at229_10 : jm_at 229 10 = some (.iload_n 2) := rfl
theorem at229_11 : jm_at 229 11 = some (.iload 4) := rfl
theorem at229_13 : jm_at 229 13 = some (.invokestatic 302) := rfl
theorem u229_9 {S : Option (Nat × (Nat → Int32))} {H : jm_H} {Q : Option Value → jm_H → Prop} {r0 : Nat} {x1 x2 x3 x4 x5 : Int32} : jm_w S 6 229 9 [.ref r0, .int x1, .int x2, .int x3, .int x4, .int x5] [] H Q = jm_c S 220 [.int x1, .int x2, .int x4] H (fun v G => jm_w S 6 229 16 [.ref r0, .int x1, .int x2, .int x3, .int x4, .int x5] (v.toList ++ []) G Q) := (js1 at229_9 rfl rfl rfl).trans ((js1 at229_10 rfl rfl rfl).trans ((js1 at229_11 rfl rfl rfl).trans (jscall (H := H) (as := [.int x1, .int x2, .int x4]) (q := []) at229_13 rfl rv229i_302 (jscut rfl rfl rfl (Nat.le_of_ble_eq_true rfl)) rfl (Nat.le_of_ble_eq_true rfl) rfl rfl)))
theorem at229_16 : jm_at 229 16 = some (.ifCond .eq 13) := rfl
theorem u229_16 {S : Option (Nat × (Nat → Int32))} {H : jm_H} {Q : Option Value → jm_H → Prop} {r0 : Nat} {x1 x2 x3 x4 x5 p0 : Int32} : jm_w S 6 229 16 [.ref r0, .int x1, .int x2, .int x3, .int x4, .int x5] [.int p0] H Q = if p0 = 0 then jm_w S 6 229 29 [.ref r0, .int x1, .int x2, .int x3, .int x4, .int x5] [] H Q else jm_w S 6 229 19 [.ref r0, .int x1, .int x2, .int x3, .int x4, .int x5] [] H Q := jsif (P := p0 = 0) at229_16 rfl rfl
theorem at229_19 : jm_at 229 19 = some (.iload_n 1) := rfl
theorem at229_20 : jm_at 229 20 = some (.iload_n 2) := rfl
theorem at229_21 : jm_at 229 21 = some (.iload 5) := rfl
theorem at229_23 : jm_at 229 23 = some (.invokestatic 302) := rfl
theorem u229_19 {S : Option (Nat × (Nat → Int32))} {H : jm_H} {Q : Option Value → jm_H → Prop} {r0 : Nat} {x1 x2 x3 x4 x5 : Int32} : jm_w S 6 229 19 [.ref r0, .int x1, .int x2, .int x3, .int x4, .int x5] [] H Q = jm_c S 220 [.int x1, .int x2, .int x5] H (fun v G => jm_w S 6 229 26 [.ref r0, .int x1, .int x2, .int x3, .int x4, .int x5] (v.toList ++ []) G Q) := (js1 at229_19 rfl rfl rfl).trans ((js1 at229_20 rfl rfl rfl).trans ((js1 at229_21 rfl rfl rfl).trans (jscall (H := H) (as := [.int x1, .int x2, .int x5]) (q := []) at229_23 rfl rv229i_302 (jscut rfl rfl rfl (Nat.le_of_ble_eq_true rfl)) rfl (Nat.le_of_ble_eq_true rfl) rfl rfl)))
theorem at229_26 : jm_at 229 26 = some (.ifCond .ne 5) := rfl
theorem u229_26 {S : Option (Nat × (Nat → Int32))} {H : jm_H} {Q : Option Value → jm_H → Prop} {r0 : Nat} {x1 x2 x3 x4 x5 p0 : Int32} : jm_w S 6 229 26 [.ref r0, .int x1, .int x2, .int x3, .int x4, .int x5] [.int p0] H Q = if ¬ p0 = 0 then jm_w S 6 229 31 [.ref r0, .int x1, .int x2, .int x3, .int x4, .int x5] [] H Q else jm_w S 6 229 29 [.ref r0, .int x1, .int x2, .int x3, .int x4, .int x5] [] H Q := jsif (P := ¬ p0 = 0) at229_26 rfl rfl
theorem at229_29 : jm_at 229 29 = some (.iconst (-1)) := rfl
theorem at229_30 : jm_at 229 30 = some (.ireturn) := rfl
theorem u229_29 {S : Option (Nat × (Nat → Int32))} {H : jm_H} {Q : Option Value → jm_H → Prop} {r0 : Nat} {x1 x2 x3 x4 x5 : Int32} : jm_w S 6 229 29 [.ref r0, .int x1, .int x2, .int x3, .int x4, .int x5] [] H Q = Q (some (.int (-1 : Int32))) H := (jsci at229_29 rfl rfl).trans (jsret_i at229_30 rfl)
theorem at229_31 : jm_at 229 31 = some (.iload_n 1) := rfl
theorem at229_32 : jm_at 229 32 = some (.iload_n 3) := rfl
theorem at229_33 : jm_at 229 33 = some (.invokestatic 276) := rfl
theorem rv229i_276 : jm_rv 229 (.invokestatic 276) = (1, 204, 0, 0) := rfl
theorem u229_31 {S : Option (Nat × (Nat → Int32))} {H : jm_H} {Q : Option Value → jm_H → Prop} {r0 : Nat} {x1 x2 x3 x4 x5 : Int32} : jm_w S 6 229 31 [.ref r0, .int x1, .int x2, .int x3, .int x4, .int x5] [] H Q = jm_c S 204 [.int x1, .int x3] H (fun v G => jm_w S 6 229 36 [.ref r0, .int x1, .int x2, .int x3, .int x4, .int x5] (v.toList ++ []) G Q) := (js1 at229_31 rfl rfl rfl).trans ((js1 at229_32 rfl rfl rfl).trans (jscall (H := H) (as := [.int x1, .int x3]) (q := []) at229_33 rfl rv229i_276 (jscut rfl rfl rfl (Nat.le_of_ble_eq_true rfl)) rfl (Nat.le_of_ble_eq_true rfl) rfl rfl))
theorem at229_36 : jm_at 229 36 = some (.ifCond .ne 21) := rfl
theorem u229_36 {S : Option (Nat × (Nat → Int32))} {H : jm_H} {Q : Option Value → jm_H → Prop} {r0 : Nat} {x1 x2 x3 x4 x5 p0 : Int32} : jm_w S 6 229 36 [.ref r0, .int x1, .int x2, .int x3, .int x4, .int x5] [.int p0] H Q = if ¬ p0 = 0 then jm_w S 6 229 57 [.ref r0, .int x1, .int x2, .int x3, .int x4, .int x5] [] H Q else jm_w S 6 229 39 [.ref r0, .int x1, .int x2, .int x3, .int x4, .int x5] [] H Q := jsif (P := ¬ p0 = 0) at229_36 rfl rfl
theorem at229_39 : jm_at 229 39 = some (.iload_n 1) := rfl
theorem at229_40 : jm_at 229 40 = some (.iload 4) := rfl
theorem at229_42 : jm_at 229 42 = some (.invokestatic 276) := rfl
theorem u229_39 {S : Option (Nat × (Nat → Int32))} {H : jm_H} {Q : Option Value → jm_H → Prop} {r0 : Nat} {x1 x2 x3 x4 x5 : Int32} : jm_w S 6 229 39 [.ref r0, .int x1, .int x2, .int x3, .int x4, .int x5] [] H Q = jm_c S 204 [.int x1, .int x4] H (fun v G => jm_w S 6 229 45 [.ref r0, .int x1, .int x2, .int x3, .int x4, .int x5] (v.toList ++ []) G Q) := (js1 at229_39 rfl rfl rfl).trans ((js1 at229_40 rfl rfl rfl).trans (jscall (H := H) (as := [.int x1, .int x4]) (q := []) at229_42 rfl rv229i_276 (jscut rfl rfl rfl (Nat.le_of_ble_eq_true rfl)) rfl (Nat.le_of_ble_eq_true rfl) rfl rfl))
theorem at229_45 : jm_at 229 45 = some (.ifCond .ne 12) := rfl
theorem u229_45 {S : Option (Nat × (Nat → Int32))} {H : jm_H} {Q : Option Value → jm_H → Prop} {r0 : Nat} {x1 x2 x3 x4 x5 p0 : Int32} : jm_w S 6 229 45 [.ref r0, .int x1, .int x2, .int x3, .int x4, .int x5] [.int p0] H Q = if ¬ p0 = 0 then jm_w S 6 229 57 [.ref r0, .int x1, .int x2, .int x3, .int x4, .int x5] [] H Q else jm_w S 6 229 48 [.ref r0, .int x1, .int x2, .int x3, .int x4, .int x5] [] H Q := jsif (P := ¬ p0 = 0) at229_45 rfl rfl
theorem at229_48 : jm_at 229 48 = some (.iload_n 1) := rfl
theorem at229_49 : jm_at 229 49 = some (.iload 5) := rfl
theorem at229_51 : jm_at 229 51 = some (.invokestatic 276) := rfl
theorem u229_48 {S : Option (Nat × (Nat → Int32))} {H : jm_H} {Q : Option Value → jm_H → Prop} {r0 : Nat} {x1 x2 x3 x4 x5 : Int32} : jm_w S 6 229 48 [.ref r0, .int x1, .int x2, .int x3, .int x4, .int x5] [] H Q = jm_c S 204 [.int x1, .int x5] H (fun v G => jm_w S 6 229 54 [.ref r0, .int x1, .int x2, .int x3, .int x4, .int x5] (v.toList ++ []) G Q) := (js1 at229_48 rfl rfl rfl).trans ((js1 at229_49 rfl rfl rfl).trans (jscall (H := H) (as := [.int x1, .int x5]) (q := []) at229_51 rfl rv229i_276 (jscut rfl rfl rfl (Nat.le_of_ble_eq_true rfl)) rfl (Nat.le_of_ble_eq_true rfl) rfl rfl))
theorem at229_54 : jm_at 229 54 = some (.ifCond .eq 8) := rfl
theorem u229_54 {S : Option (Nat × (Nat → Int32))} {H : jm_H} {Q : Option Value → jm_H → Prop} {r0 : Nat} {x1 x2 x3 x4 x5 p0 : Int32} : jm_w S 6 229 54 [.ref r0, .int x1, .int x2, .int x3, .int x4, .int x5] [.int p0] H Q = if p0 = 0 then jm_w S 6 229 62 [.ref r0, .int x1, .int x2, .int x3, .int x4, .int x5] [] H Q else jm_w S 6 229 57 [.ref r0, .int x1, .int x2, .int x3, .int x4, .int x5] [] H Q := jsif (P := p0 = 0) at229_54 rfl rfl
theorem at229_57 : jm_at 229 57 = some (.iload_n 1) := rfl
theorem at229_58 : jm_at 229 58 = some (.invokestatic 280) := rfl
theorem rv229i_280 : jm_rv 229 (.invokestatic 280) = (1, 191, 0, 0) := rfl
theorem u229_57 {S : Option (Nat × (Nat → Int32))} {H : jm_H} {Q : Option Value → jm_H → Prop} {r0 : Nat} {x1 x2 x3 x4 x5 : Int32} : jm_w S 6 229 57 [.ref r0, .int x1, .int x2, .int x3, .int x4, .int x5] [] H Q = jm_c S 191 [.int x1] H (fun v G => jm_w S 6 229 61 [.ref r0, .int x1, .int x2, .int x3, .int x4, .int x5] (v.toList ++ []) G Q) := (js1 at229_57 rfl rfl rfl).trans (jscall (H := H) (as := [.int x1]) (q := []) at229_58 rfl rv229i_280 (jscut rfl rfl rfl (Nat.le_of_ble_eq_true rfl)) rfl (Nat.le_of_ble_eq_true rfl) rfl rfl)
theorem at229_61 : jm_at 229 61 = some (.ireturn) := rfl
theorem u229_61 {S : Option (Nat × (Nat → Int32))} {H : jm_H} {Q : Option Value → jm_H → Prop} {r0 : Nat} {x1 x2 x3 x4 x5 p0 : Int32} : jm_w S 6 229 61 [.ref r0, .int x1, .int x2, .int x3, .int x4, .int x5] [.int p0] H Q = Q (some (.int p0)) H := jsret_i at229_61 rfl
theorem at229_62 : jm_at 229 62 = some (.aload_n 0) := rfl
theorem at229_63 : jm_at 229 63 = some (.invokevirtual 273) := rfl
theorem rv229i_273 : jm_rv 229 (.invokevirtual 273) = (2, 203, 0, 0) := rfl
theorem u229_62 {S : Option (Nat × (Nat → Int32))} {H : jm_H} {Q : Option Value → jm_H → Prop} {r0 : Nat} {x1 x2 x3 x4 x5 : Int32} (h0 : jm_tg H r0 = 13) : jm_w S 6 229 62 [.ref r0, .int x1, .int x2, .int x3, .int x4, .int x5] [] H Q = jm_c S 203 [.ref r0] H (fun v G => jm_w S 6 229 66 [.ref r0, .int x1, .int x2, .int x3, .int x4, .int x5] (v.toList ++ []) G Q) := (js1 at229_62 rfl rfl rfl).trans (jscall (H := H) (as := [.ref r0]) (q := []) at229_63 rfl rv229i_273 (jscutV rfl rfl rfl (Nat.le_of_ble_eq_true rfl) rfl h0) rfl (Nat.le_of_ble_eq_true rfl) rfl rfl)
theorem at229_66 : jm_at 229 66 = some (.aload_n 0) := rfl
theorem at229_67 : jm_at 229 67 = some (.iload_n 1) := rfl
theorem at229_68 : jm_at 229 68 = some (.iload_n 2) := rfl
theorem at229_69 : jm_at 229 69 = some (.iload_n 3) := rfl
theorem at229_70 : jm_at 229 70 = some (.iload 4) := rfl
theorem at229_72 : jm_at 229 72 = some (.iconst 1) := rfl
theorem at229_73 : jm_at 229 73 = some (.invokevirtual 283) := rfl
theorem rv229i_283 : jm_rv 229 (.invokevirtual 283) = (2, 205, 0, 0) := rfl
theorem u229_66 {S : Option (Nat × (Nat → Int32))} {H : jm_H} {Q : Option Value → jm_H → Prop} {r0 : Nat} {x1 x2 x3 x4 x5 : Int32} (h0 : jm_tg H r0 = 13) : jm_w S 6 229 66 [.ref r0, .int x1, .int x2, .int x3, .int x4, .int x5] [] H Q = jm_c S 205 [.ref r0, .int x1, .int x2, .int x3, .int x4, .int (1 : Int32)] H (fun v G => jm_w S 6 229 76 [.ref r0, .int x1, .int x2, .int x3, .int x4, .int x5] (v.toList ++ []) G Q) := (js1 at229_66 rfl rfl rfl).trans ((js1 at229_67 rfl rfl rfl).trans ((js1 at229_68 rfl rfl rfl).trans ((js1 at229_69 rfl rfl rfl).trans ((js1 at229_70 rfl rfl rfl).trans ((jsci at229_72 rfl rfl).trans (jscall (H := H) (as := [.ref r0, .int x1, .int x2, .int x3, .int x4, .int (1 : Int32)]) (q := []) at229_73 rfl rv229i_283 (jscutV rfl rfl rfl (Nat.le_of_ble_eq_true rfl) rfl h0) rfl (Nat.le_of_ble_eq_true rfl) rfl rfl))))))
theorem at229_76 : jm_at 229 76 = some (.aload_n 0) := rfl
theorem at229_77 : jm_at 229 77 = some (.iload_n 1) := rfl
theorem at229_78 : jm_at 229 78 = some (.iload_n 2) := rfl
theorem at229_79 : jm_at 229 79 = some (.iload 5) := rfl
theorem at229_81 : jm_at 229 81 = some (.iconst 1) := rfl
theorem at229_82 : jm_at 229 82 = some (.invokevirtual 393) := rfl
theorem rv229i_393 : jm_rv 229 (.invokevirtual 393) = (2, 210, 0, 0) := rfl
theorem u229_76 {S : Option (Nat × (Nat → Int32))} {H : jm_H} {Q : Option Value → jm_H → Prop} {r0 : Nat} {x1 x2 x3 x4 x5 : Int32} (h0 : jm_tg H r0 = 13) : jm_w S 6 229 76 [.ref r0, .int x1, .int x2, .int x3, .int x4, .int x5] [] H Q = jm_c S 210 [.ref r0, .int x1, .int x2, .int x5, .int (1 : Int32)] H (fun v G => jm_w S 6 229 85 [.ref r0, .int x1, .int x2, .int x3, .int x4, .int x5] (v.toList ++ []) G Q) := (js1 at229_76 rfl rfl rfl).trans ((js1 at229_77 rfl rfl rfl).trans ((js1 at229_78 rfl rfl rfl).trans ((js1 at229_79 rfl rfl rfl).trans ((jsci at229_81 rfl rfl).trans (jscall (H := H) (as := [.ref r0, .int x1, .int x2, .int x5, .int (1 : Int32)]) (q := []) at229_82 rfl rv229i_393 (jscutV rfl rfl rfl (Nat.le_of_ble_eq_true rfl) rfl h0) rfl (Nat.le_of_ble_eq_true rfl) rfl rfl)))))
theorem at229_85 : jm_at 229 85 = some (.aload_n 0) := rfl
theorem at229_86 : jm_at 229 86 = some (.iload_n 1) := rfl
theorem at229_87 : jm_at 229 87 = some (.iload_n 2) := rfl
theorem at229_88 : jm_at 229 88 = some (.invokevirtual 287) := rfl
theorem rv229i_287 : jm_rv 229 (.invokevirtual 287) = (2, 208, 0, 0) := rfl
theorem u229_85 {S : Option (Nat × (Nat → Int32))} {H : jm_H} {Q : Option Value → jm_H → Prop} {r0 : Nat} {x1 x2 x3 x4 x5 : Int32} (h0 : jm_tg H r0 = 13) : jm_w S 6 229 85 [.ref r0, .int x1, .int x2, .int x3, .int x4, .int x5] [] H Q = jm_c S 208 [.ref r0, .int x1, .int x2] H (fun v G => jm_w S 6 229 91 [.ref r0, .int x1, .int x2, .int x3, .int x4, .int x5] (v.toList ++ []) G Q) := (js1 at229_85 rfl rfl rfl).trans ((js1 at229_86 rfl rfl rfl).trans ((js1 at229_87 rfl rfl rfl).trans (jscall (H := H) (as := [.ref r0, .int x1, .int x2]) (q := []) at229_88 rfl rv229i_287 (jscutV rfl rfl rfl (Nat.le_of_ble_eq_true rfl) rfl h0) rfl (Nat.le_of_ble_eq_true rfl) rfl rfl)))
theorem at229_91 : jm_at 229 91 = some (.ireturn) := rfl
theorem u229_91 {S : Option (Nat × (Nat → Int32))} {H : jm_H} {Q : Option Value → jm_H → Prop} {r0 : Nat} {x1 x2 x3 x4 x5 p0 : Int32} : jm_w S 6 229 91 [.ref r0, .int x1, .int x2, .int x3, .int x4, .int x5] [.int p0] H Q = Q (some (.int p0)) H := jsret_i at229_91 rfl
theorem en229 {S : Option (Nat × (Nat → Int32))} {H : jm_H} {Q : Option Value → jm_H → Prop} {r0 : Nat} {x1 x2 x3 x4 x5 : Int32} : jm_c S 229 [.ref r0, .int x1, .int x2, .int x3, .int x4, .int x5] H Q = jm_w S 6 229 0 [.ref r0, .int x1, .int x2, .int x3, .int x4, .int x5] [] H Q := rfl
theorem at230_0 : jm_at 230 0 = some (.iload_n 1) := rfl
theorem at230_1 : jm_at 230 1 = some (.iload_n 2) := rfl
theorem at230_2 : jm_at 230 2 = some (.iload_n 3) := rfl
theorem at230_3 : jm_at 230 3 = some (.invokestatic 302) := rfl
theorem rv230i_302 : jm_rv 230 (.invokestatic 302) = (1, 220, 0, 0) := rfl
theorem u230_0 {S : Option (Nat × (Nat → Int32))} {H : jm_H} {Q : Option Value → jm_H → Prop} {r0 : Nat} {x1 x2 x3 x4 : Int32} : jm_w S 4 230 0 [.ref r0, .int x1, .int x2, .int x3, .int x4, .null, .null] [] H Q = jm_c S 220 [.int x1, .int x2, .int x3] H (fun v G => jm_w S 4 230 6 [.ref r0, .int x1, .int x2, .int x3, .int x4, .null, .null] (v.toList ++ []) G Q) := (js1 at230_0 rfl rfl rfl).trans ((js1 at230_1 rfl rfl rfl).trans ((js1 at230_2 rfl rfl rfl).trans (jscall (H := H) (as := [.int x1, .int x2, .int x3]) (q := []) at230_3 rfl rv230i_302 (jscut rfl rfl rfl (Nat.le_of_ble_eq_true rfl)) rfl (Nat.le_of_ble_eq_true rfl) rfl rfl)))
theorem at230_6 : jm_at 230 6 = some (.ifCond .eq 13) := rfl
theorem u230_6 {S : Option (Nat × (Nat → Int32))} {H : jm_H} {Q : Option Value → jm_H → Prop} {r0 : Nat} {x1 x2 x3 x4 p0 : Int32} : jm_w S 4 230 6 [.ref r0, .int x1, .int x2, .int x3, .int x4, .null, .null] [.int p0] H Q = if p0 = 0 then jm_w S 4 230 19 [.ref r0, .int x1, .int x2, .int x3, .int x4, .null, .null] [] H Q else jm_w S 4 230 9 [.ref r0, .int x1, .int x2, .int x3, .int x4, .null, .null] [] H Q := jsif (P := p0 = 0) at230_6 rfl rfl
theorem at230_9 : jm_at 230 9 = some (.iload_n 1) := rfl
theorem at230_10 : jm_at 230 10 = some (.iload_n 2) := rfl
theorem at230_11 : jm_at 230 11 = some (.iload 4) := rfl
theorem at230_13 : jm_at 230 13 = some (.invokestatic 302) := rfl
theorem u230_9 {S : Option (Nat × (Nat → Int32))} {H : jm_H} {Q : Option Value → jm_H → Prop} {r0 : Nat} {x1 x2 x3 x4 : Int32} : jm_w S 4 230 9 [.ref r0, .int x1, .int x2, .int x3, .int x4, .null, .null] [] H Q = jm_c S 220 [.int x1, .int x2, .int x4] H (fun v G => jm_w S 4 230 16 [.ref r0, .int x1, .int x2, .int x3, .int x4, .null, .null] (v.toList ++ []) G Q) := (js1 at230_9 rfl rfl rfl).trans ((js1 at230_10 rfl rfl rfl).trans ((js1 at230_11 rfl rfl rfl).trans (jscall (H := H) (as := [.int x1, .int x2, .int x4]) (q := []) at230_13 rfl rv230i_302 (jscut rfl rfl rfl (Nat.le_of_ble_eq_true rfl)) rfl (Nat.le_of_ble_eq_true rfl) rfl rfl)))
theorem at230_16 : jm_at 230 16 = some (.ifCond .ne 6) := rfl
theorem u230_16 {S : Option (Nat × (Nat → Int32))} {H : jm_H} {Q : Option Value → jm_H → Prop} {r0 : Nat} {x1 x2 x3 x4 p0 : Int32} : jm_w S 4 230 16 [.ref r0, .int x1, .int x2, .int x3, .int x4, .null, .null] [.int p0] H Q = if ¬ p0 = 0 then jm_w S 4 230 22 [.ref r0, .int x1, .int x2, .int x3, .int x4, .null, .null] [] H Q else jm_w S 4 230 19 [.ref r0, .int x1, .int x2, .int x3, .int x4, .null, .null] [] H Q := jsif (P := ¬ p0 = 0) at230_16 rfl rfl
theorem at230_19 : jm_at 230 19 = some (.bipush (-2)) := rfl
theorem at230_21 : jm_at 230 21 = some (.ireturn) := rfl
theorem u230_19 {S : Option (Nat × (Nat → Int32))} {H : jm_H} {Q : Option Value → jm_H → Prop} {r0 : Nat} {x1 x2 x3 x4 : Int32} : jm_w S 4 230 19 [.ref r0, .int x1, .int x2, .int x3, .int x4, .null, .null] [] H Q = Q (some (.int (-2 : Int32))) H := (jscb at230_19 rfl rfl).trans (jsret_i at230_21 rfl)
theorem at230_22 : jm_at 230 22 = some (.iload_n 1) := rfl
theorem at230_23 : jm_at 230 23 = some (.iload_n 3) := rfl
theorem at230_24 : jm_at 230 24 = some (.invokestatic 403) := rfl
theorem rv230i_403 : jm_rv 230 (.invokestatic 403) = (1, 231, 0, 0) := rfl
theorem u230_22 {S : Option (Nat × (Nat → Int32))} {H : jm_H} {Q : Option Value → jm_H → Prop} {r0 : Nat} {x1 x2 x3 x4 : Int32} : jm_w S 4 230 22 [.ref r0, .int x1, .int x2, .int x3, .int x4, .null, .null] [] H Q = jm_c S 231 [.int x1, .int x3] H (fun v G => jm_w S 4 230 27 [.ref r0, .int x1, .int x2, .int x3, .int x4, .null, .null] (v.toList ++ []) G Q) := (js1 at230_22 rfl rfl rfl).trans ((js1 at230_23 rfl rfl rfl).trans (jscall (H := H) (as := [.int x1, .int x3]) (q := []) at230_24 rfl rv230i_403 (jscut rfl rfl rfl (Nat.le_of_ble_eq_true rfl)) rfl (Nat.le_of_ble_eq_true rfl) rfl rfl))
theorem at230_27 : jm_at 230 27 = some (.istore 5) := rfl
theorem at230_29 : jm_at 230 29 = some (.iload_n 1) := rfl
theorem at230_30 : jm_at 230 30 = some (.iload 4) := rfl
theorem at230_32 : jm_at 230 32 = some (.invokestatic 403) := rfl
theorem u230_27 {S : Option (Nat × (Nat → Int32))} {H : jm_H} {Q : Option Value → jm_H → Prop} {r0 : Nat} {x1 x2 x3 x4 p0 : Int32} : jm_w S 4 230 27 [.ref r0, .int x1, .int x2, .int x3, .int x4, .null, .null] [.int p0] H Q = jm_c S 231 [.int x1, .int x4] H (fun v G => jm_w S 4 230 35 [.ref r0, .int x1, .int x2, .int x3, .int x4, .int p0, .null] (v.toList ++ []) G Q) := (js1 at230_27 rfl rfl rfl).trans ((js1 at230_29 rfl rfl rfl).trans ((js1 at230_30 rfl rfl rfl).trans (jscall (H := H) (as := [.int x1, .int x4]) (q := []) at230_32 rfl rv230i_403 (jscut rfl rfl rfl (Nat.le_of_ble_eq_true rfl)) rfl (Nat.le_of_ble_eq_true rfl) rfl rfl)))
theorem at230_35 : jm_at 230 35 = some (.istore 6) := rfl
theorem at230_37 : jm_at 230 37 = some (.iload 5) := rfl
theorem at230_39 : jm_at 230 39 = some (.iload 6) := rfl
theorem at230_41 : jm_at 230 41 = some (.if_icmp .ge 7) := rfl
theorem u230_35 {S : Option (Nat × (Nat → Int32))} {H : jm_H} {Q : Option Value → jm_H → Prop} {r0 : Nat} {x1 x2 x3 x4 x5 p0 : Int32} : jm_w S 4 230 35 [.ref r0, .int x1, .int x2, .int x3, .int x4, .int x5, .null] [.int p0] H Q = if p0 ≤ x5 then jm_w S 4 230 48 [.ref r0, .int x1, .int x2, .int x3, .int x4, .int x5, .int p0] [] H Q else jm_w S 4 230 44 [.ref r0, .int x1, .int x2, .int x3, .int x4, .int x5, .int p0] [] H Q := (js1 at230_35 rfl rfl rfl).trans ((js1 at230_37 rfl rfl rfl).trans ((js1 at230_39 rfl rfl rfl).trans (jsif (P := p0 ≤ x5) at230_41 rfl rfl)))
theorem at230_44 : jm_at 230 44 = some (.iconst (-1)) := rfl
theorem at230_45 : jm_at 230 45 = some (.goto 15) := rfl
theorem u230_44 {S : Option (Nat × (Nat → Int32))} {H : jm_H} {Q : Option Value → jm_H → Prop} {r0 : Nat} {x1 x2 x3 x4 x5 x6 : Int32} : jm_w S 4 230 44 [.ref r0, .int x1, .int x2, .int x3, .int x4, .int x5, .int x6] [] H Q = jm_w S 4 230 60 [.ref r0, .int x1, .int x2, .int x3, .int x4, .int x5, .int x6] [.int (-1 : Int32)] H Q := (jsci at230_44 rfl rfl).trans (js2 at230_45 rfl rfl)
theorem at230_48 : jm_at 230 48 = some (.iload 5) := rfl
theorem at230_50 : jm_at 230 50 = some (.iload 6) := rfl
theorem at230_52 : jm_at 230 52 = some (.if_icmp .le 7) := rfl
theorem u230_48 {S : Option (Nat × (Nat → Int32))} {H : jm_H} {Q : Option Value → jm_H → Prop} {r0 : Nat} {x1 x2 x3 x4 x5 x6 : Int32} : jm_w S 4 230 48 [.ref r0, .int x1, .int x2, .int x3, .int x4, .int x5, .int x6] [] H Q = if x5 ≤ x6 then jm_w S 4 230 59 [.ref r0, .int x1, .int x2, .int x3, .int x4, .int x5, .int x6] [] H Q else jm_w S 4 230 55 [.ref r0, .int x1, .int x2, .int x3, .int x4, .int x5, .int x6] [] H Q := (js1 at230_48 rfl rfl rfl).trans ((js1 at230_50 rfl rfl rfl).trans (jsif (P := x5 ≤ x6) at230_52 rfl rfl))
theorem at230_55 : jm_at 230 55 = some (.iconst 1) := rfl
theorem at230_56 : jm_at 230 56 = some (.goto 4) := rfl
theorem u230_55 {S : Option (Nat × (Nat → Int32))} {H : jm_H} {Q : Option Value → jm_H → Prop} {r0 : Nat} {x1 x2 x3 x4 x5 x6 : Int32} : jm_w S 4 230 55 [.ref r0, .int x1, .int x2, .int x3, .int x4, .int x5, .int x6] [] H Q = jm_w S 4 230 60 [.ref r0, .int x1, .int x2, .int x3, .int x4, .int x5, .int x6] [.int (1 : Int32)] H Q := (jsci at230_55 rfl rfl).trans (js2 at230_56 rfl rfl)
theorem at230_59 : jm_at 230 59 = some (.iconst 0) := rfl
theorem u230_59 {S : Option (Nat × (Nat → Int32))} {H : jm_H} {Q : Option Value → jm_H → Prop} {r0 : Nat} {x1 x2 x3 x4 x5 x6 : Int32} : jm_w S 4 230 59 [.ref r0, .int x1, .int x2, .int x3, .int x4, .int x5, .int x6] [] H Q = jm_w S 4 230 60 [.ref r0, .int x1, .int x2, .int x3, .int x4, .int x5, .int x6] [.int (0 : Int32)] H Q := jsci at230_59 rfl rfl
theorem at230_60 : jm_at 230 60 = some (.ireturn) := rfl
theorem u230_60 {S : Option (Nat × (Nat → Int32))} {H : jm_H} {Q : Option Value → jm_H → Prop} {r0 : Nat} {x1 x2 x3 x4 x5 x6 p0 : Int32} : jm_w S 4 230 60 [.ref r0, .int x1, .int x2, .int x3, .int x4, .int x5, .int x6] [.int p0] H Q = Q (some (.int p0)) H := jsret_i at230_60 rfl
theorem en230 {S : Option (Nat × (Nat → Int32))} {H : jm_H} {Q : Option Value → jm_H → Prop} {r0 : Nat} {x1 x2 x3 x4 : Int32} : jm_c S 230 [.ref r0, .int x1, .int x2, .int x3, .int x4] H Q = jm_w S 4 230 0 [.ref r0, .int x1, .int x2, .int x3, .int x4, .null, .null] [] H Q := rfl
theorem at231_0 : jm_at 231 0 = some (.iload_n 1) := rfl
theorem at231_1 : jm_at 231 1 = some (.iload_n 0) := rfl
theorem at231_2 : jm_at 231 2 = some (.invokestatic 280) := rfl
theorem rv231i_280 : jm_rv 231 (.invokestatic 280) = (1, 191, 0, 0) := rfl
theorem u231_0 {S : Option (Nat × (Nat → Int32))} {H : jm_H} {Q : Option Value → jm_H → Prop} {x0 x1 : Int32} : jm_w S 2 231 0 [.int x0, .int x1] [] H Q = jm_c S 191 [.int x0] H (fun v G => jm_w S 2 231 5 [.int x0, .int x1] (v.toList ++ [.int x1]) G Q) := (js1 at231_0 rfl rfl rfl).trans ((js1 at231_1 rfl rfl rfl).trans (jscall (H := H) (as := [.int x0]) (q := [.int x1]) at231_2 rfl rv231i_280 (jscut rfl rfl rfl (Nat.le_of_ble_eq_true rfl)) rfl (Nat.le_of_ble_eq_true rfl) rfl rfl))
theorem at231_5 : jm_at 231 5 = some (.if_icmp .lt 11) := rfl
theorem u231_5 {S : Option (Nat × (Nat → Int32))} {H : jm_H} {Q : Option Value → jm_H → Prop} {x0 x1 p0 p1 : Int32} : jm_w S 2 231 5 [.int x0, .int x1] [.int p1, .int p0] H Q = if p0 < p1 then jm_w S 2 231 16 [.int x0, .int x1] [] H Q else jm_w S 2 231 8 [.int x0, .int x1] [] H Q := jsif (P := p0 < p1) at231_5 rfl rfl
theorem at231_8 : jm_at 231 8 = some (.iload_n 1) := rfl
theorem at231_9 : jm_at 231 9 = some (.iconst 1) := rfl
theorem at231_10 : jm_at 231 10 = some (.iload_n 0) := rfl
theorem at231_11 : jm_at 231 11 = some (.ishl) := rfl
theorem at231_12 : jm_at 231 12 = some (.isub) := rfl
theorem at231_13 : jm_at 231 13 = some (.goto 4) := rfl
theorem u231_8 {S : Option (Nat × (Nat → Int32))} {H : jm_H} {Q : Option Value → jm_H → Prop} {x0 x1 : Int32} : jm_w S 2 231 8 [.int x0, .int x1] [] H Q = jm_w S 2 231 17 [.int x0, .int x1] [.int (x1 - ((1 : Int32) <<< (x0 &&& 31)))] H Q := (js1 at231_8 rfl rfl rfl).trans ((jsci at231_9 rfl rfl).trans ((js1 at231_10 rfl rfl rfl).trans ((js0 at231_11 rfl rfl rfl).trans ((js0 at231_12 rfl rfl rfl).trans (js2 at231_13 rfl rfl)))))
theorem at231_16 : jm_at 231 16 = some (.iload_n 1) := rfl
theorem u231_16 {S : Option (Nat × (Nat → Int32))} {H : jm_H} {Q : Option Value → jm_H → Prop} {x0 x1 : Int32} : jm_w S 2 231 16 [.int x0, .int x1] [] H Q = jm_w S 2 231 17 [.int x0, .int x1] [.int x1] H Q := js1 at231_16 rfl rfl rfl
theorem at231_17 : jm_at 231 17 = some (.ireturn) := rfl
theorem u231_17 {S : Option (Nat × (Nat → Int32))} {H : jm_H} {Q : Option Value → jm_H → Prop} {x0 x1 p0 : Int32} : jm_w S 2 231 17 [.int x0, .int x1] [.int p0] H Q = Q (some (.int p0)) H := jsret_i at231_17 rfl
theorem en231 {S : Option (Nat × (Nat → Int32))} {H : jm_H} {Q : Option Value → jm_H → Prop} {x0 x1 : Int32} : jm_c S 231 [.int x0, .int x1] H Q = jm_w S 2 231 0 [.int x0, .int x1] [] H Q := rfl
theorem at232_0 : jm_at 232 0 = some (.iload_n 1) := rfl
theorem at232_1 : jm_at 232 1 = some (.iload_n 2) := rfl
theorem at232_2 : jm_at 232 2 = some (.iload_n 3) := rfl
theorem at232_3 : jm_at 232 3 = some (.invokestatic 302) := rfl
theorem rv232i_302 : jm_rv 232 (.invokestatic 302) = (1, 220, 0, 0) := rfl
theorem u232_0 {S : Option (Nat × (Nat → Int32))} {H : jm_H} {Q : Option Value → jm_H → Prop} {r0 : Nat} {x1 x2 x3 x4 : Int32} : jm_w S 4 232 0 [.ref r0, .int x1, .int x2, .int x3, .int x4, .null] [] H Q = jm_c S 220 [.int x1, .int x2, .int x3] H (fun v G => jm_w S 4 232 6 [.ref r0, .int x1, .int x2, .int x3, .int x4, .null] (v.toList ++ []) G Q) := (js1 at232_0 rfl rfl rfl).trans ((js1 at232_1 rfl rfl rfl).trans ((js1 at232_2 rfl rfl rfl).trans (jscall (H := H) (as := [.int x1, .int x2, .int x3]) (q := []) at232_3 rfl rv232i_302 (jscut rfl rfl rfl (Nat.le_of_ble_eq_true rfl)) rfl (Nat.le_of_ble_eq_true rfl) rfl rfl)))
theorem at232_6 : jm_at 232 6 = some (.ifCond .eq 30) := rfl
theorem u232_6 {S : Option (Nat × (Nat → Int32))} {H : jm_H} {Q : Option Value → jm_H → Prop} {r0 : Nat} {x1 x2 x3 x4 p0 : Int32} : jm_w S 4 232 6 [.ref r0, .int x1, .int x2, .int x3, .int x4, .null] [.int p0] H Q = if p0 = 0 then jm_w S 4 232 36 [.ref r0, .int x1, .int x2, .int x3, .int x4, .null] [] H Q else jm_w S 4 232 9 [.ref r0, .int x1, .int x2, .int x3, .int x4, .null] [] H Q := jsif (P := p0 = 0) at232_6 rfl rfl
theorem at232_9 : jm_at 232 9 = some (.iload_n 1) := rfl
theorem at232_10 : jm_at 232 10 = some (.iload_n 2) := rfl
theorem at232_11 : jm_at 232 11 = some (.iload 4) := rfl
theorem at232_13 : jm_at 232 13 = some (.invokestatic 302) := rfl
theorem u232_9 {S : Option (Nat × (Nat → Int32))} {H : jm_H} {Q : Option Value → jm_H → Prop} {r0 : Nat} {x1 x2 x3 x4 : Int32} : jm_w S 4 232 9 [.ref r0, .int x1, .int x2, .int x3, .int x4, .null] [] H Q = jm_c S 220 [.int x1, .int x2, .int x4] H (fun v G => jm_w S 4 232 16 [.ref r0, .int x1, .int x2, .int x3, .int x4, .null] (v.toList ++ []) G Q) := (js1 at232_9 rfl rfl rfl).trans ((js1 at232_10 rfl rfl rfl).trans ((js1 at232_11 rfl rfl rfl).trans (jscall (H := H) (as := [.int x1, .int x2, .int x4]) (q := []) at232_13 rfl rv232i_302 (jscut rfl rfl rfl (Nat.le_of_ble_eq_true rfl)) rfl (Nat.le_of_ble_eq_true rfl) rfl rfl)))
theorem at232_16 : jm_at 232 16 = some (.ifCond .eq 20) := rfl
theorem u232_16 {S : Option (Nat × (Nat → Int32))} {H : jm_H} {Q : Option Value → jm_H → Prop} {r0 : Nat} {x1 x2 x3 x4 p0 : Int32} : jm_w S 4 232 16 [.ref r0, .int x1, .int x2, .int x3, .int x4, .null] [.int p0] H Q = if p0 = 0 then jm_w S 4 232 36 [.ref r0, .int x1, .int x2, .int x3, .int x4, .null] [] H Q else jm_w S 4 232 19 [.ref r0, .int x1, .int x2, .int x3, .int x4, .null] [] H Q := jsif (P := p0 = 0) at232_16 rfl rfl
theorem at232_19 : jm_at 232 19 = some (.iload_n 1) := rfl
theorem at232_20 : jm_at 232 20 = some (.iload_n 3) := rfl
theorem at232_21 : jm_at 232 21 = some (.invokestatic 276) := rfl
theorem rv232i_276 : jm_rv 232 (.invokestatic 276) = (1, 204, 0, 0) := rfl
theorem u232_19 {S : Option (Nat × (Nat → Int32))} {H : jm_H} {Q : Option Value → jm_H → Prop} {r0 : Nat} {x1 x2 x3 x4 : Int32} : jm_w S 4 232 19 [.ref r0, .int x1, .int x2, .int x3, .int x4, .null] [] H Q = jm_c S 204 [.int x1, .int x3] H (fun v G => jm_w S 4 232 24 [.ref r0, .int x1, .int x2, .int x3, .int x4, .null] (v.toList ++ []) G Q) := (js1 at232_19 rfl rfl rfl).trans ((js1 at232_20 rfl rfl rfl).trans (jscall (H := H) (as := [.int x1, .int x3]) (q := []) at232_21 rfl rv232i_276 (jscut rfl rfl rfl (Nat.le_of_ble_eq_true rfl)) rfl (Nat.le_of_ble_eq_true rfl) rfl rfl))
theorem at232_24 : jm_at 232 24 = some (.ifCond .ne 12) := rfl
theorem u232_24 {S : Option (Nat × (Nat → Int32))} {H : jm_H} {Q : Option Value → jm_H → Prop} {r0 : Nat} {x1 x2 x3 x4 p0 : Int32} : jm_w S 4 232 24 [.ref r0, .int x1, .int x2, .int x3, .int x4, .null] [.int p0] H Q = if ¬ p0 = 0 then jm_w S 4 232 36 [.ref r0, .int x1, .int x2, .int x3, .int x4, .null] [] H Q else jm_w S 4 232 27 [.ref r0, .int x1, .int x2, .int x3, .int x4, .null] [] H Q := jsif (P := ¬ p0 = 0) at232_24 rfl rfl
theorem at232_27 : jm_at 232 27 = some (.iload_n 1) := rfl
theorem at232_28 : jm_at 232 28 = some (.iload 4) := rfl
theorem at232_30 : jm_at 232 30 = some (.invokestatic 276) := rfl
theorem u232_27 {S : Option (Nat × (Nat → Int32))} {H : jm_H} {Q : Option Value → jm_H → Prop} {r0 : Nat} {x1 x2 x3 x4 : Int32} : jm_w S 4 232 27 [.ref r0, .int x1, .int x2, .int x3, .int x4, .null] [] H Q = jm_c S 204 [.int x1, .int x4] H (fun v G => jm_w S 4 232 33 [.ref r0, .int x1, .int x2, .int x3, .int x4, .null] (v.toList ++ []) G Q) := (js1 at232_27 rfl rfl rfl).trans ((js1 at232_28 rfl rfl rfl).trans (jscall (H := H) (as := [.int x1, .int x4]) (q := []) at232_30 rfl rv232i_276 (jscut rfl rfl rfl (Nat.le_of_ble_eq_true rfl)) rfl (Nat.le_of_ble_eq_true rfl) rfl rfl))
theorem at232_33 : jm_at 232 33 = some (.ifCond .eq 5) := rfl
theorem u232_33 {S : Option (Nat × (Nat → Int32))} {H : jm_H} {Q : Option Value → jm_H → Prop} {r0 : Nat} {x1 x2 x3 x4 p0 : Int32} : jm_w S 4 232 33 [.ref r0, .int x1, .int x2, .int x3, .int x4, .null] [.int p0] H Q = if p0 = 0 then jm_w S 4 232 38 [.ref r0, .int x1, .int x2, .int x3, .int x4, .null] [] H Q else jm_w S 4 232 36 [.ref r0, .int x1, .int x2, .int x3, .int x4, .null] [] H Q := jsif (P := p0 = 0) at232_33 rfl rfl
theorem at232_36 : jm_at 232 36 = some (.iconst (-1)) := rfl
theorem at232_37 : jm_at 232 37 = some (.ireturn) := rfl
theorem u232_36 {S : Option (Nat × (Nat → Int32))} {H : jm_H} {Q : Option Value → jm_H → Prop} {r0 : Nat} {x1 x2 x3 x4 : Int32} : jm_w S 4 232 36 [.ref r0, .int x1, .int x2, .int x3, .int x4, .null] [] H Q = Q (some (.int (-1 : Int32))) H := (jsci at232_36 rfl rfl).trans (jsret_i at232_37 rfl)
theorem at232_38 : jm_at 232 38 = some (.iload_n 1) := rfl
theorem at232_39 : jm_at 232 39 = some (.iload 4) := rfl
theorem at232_41 : jm_at 232 41 = some (.invokestatic 403) := rfl
theorem rv232i_403 : jm_rv 232 (.invokestatic 403) = (1, 231, 0, 0) := rfl
theorem u232_38 {S : Option (Nat × (Nat → Int32))} {H : jm_H} {Q : Option Value → jm_H → Prop} {r0 : Nat} {x1 x2 x3 x4 : Int32} : jm_w S 4 232 38 [.ref r0, .int x1, .int x2, .int x3, .int x4, .null] [] H Q = jm_c S 231 [.int x1, .int x4] H (fun v G => jm_w S 4 232 44 [.ref r0, .int x1, .int x2, .int x3, .int x4, .null] (v.toList ++ []) G Q) := (js1 at232_38 rfl rfl rfl).trans ((js1 at232_39 rfl rfl rfl).trans (jscall (H := H) (as := [.int x1, .int x4]) (q := []) at232_41 rfl rv232i_403 (jscut rfl rfl rfl (Nat.le_of_ble_eq_true rfl)) rfl (Nat.le_of_ble_eq_true rfl) rfl rfl))
theorem at232_44 : jm_at 232 44 = some (.iload_n 1) := rfl
theorem at232_45 : jm_at 232 45 = some (.iload_n 3) := rfl
theorem at232_46 : jm_at 232 46 = some (.invokestatic 403) := rfl
theorem u232_44 {S : Option (Nat × (Nat → Int32))} {H : jm_H} {Q : Option Value → jm_H → Prop} {r0 : Nat} {x1 x2 x3 x4 p0 : Int32} : jm_w S 4 232 44 [.ref r0, .int x1, .int x2, .int x3, .int x4, .null] [.int p0] H Q = jm_c S 231 [.int x1, .int x3] H (fun v G => jm_w S 4 232 49 [.ref r0, .int x1, .int x2, .int x3, .int x4, .null] (v.toList ++ [.int p0]) G Q) := (js1 at232_44 rfl rfl rfl).trans ((js1 at232_45 rfl rfl rfl).trans (jscall (H := H) (as := [.int x1, .int x3]) (q := [.int p0]) at232_46 rfl rv232i_403 (jscut rfl rfl rfl (Nat.le_of_ble_eq_true rfl)) rfl (Nat.le_of_ble_eq_true rfl) rfl rfl))
theorem at232_49 : jm_at 232 49 = some (.isub) := rfl
theorem at232_50 : jm_at 232 50 = some (.iconst 1) := rfl
theorem at232_51 : jm_at 232 51 = some (.iadd) := rfl
theorem at232_52 : jm_at 232 52 = some (.istore 5) := rfl
theorem at232_54 : jm_at 232 54 = some (.iload 5) := rfl
theorem at232_56 : jm_at 232 56 = some (.ifCond .ge 7) := rfl
theorem u232_49 {S : Option (Nat × (Nat → Int32))} {H : jm_H} {Q : Option Value → jm_H → Prop} {r0 : Nat} {x1 x2 x3 x4 p0 p1 : Int32} : jm_w S 4 232 49 [.ref r0, .int x1, .int x2, .int x3, .int x4, .null] [.int p1, .int p0] H Q = if 0 ≤ ((p0 - p1) + (1 : Int32)) then jm_w S 4 232 63 [.ref r0, .int x1, .int x2, .int x3, .int x4, .int ((p0 - p1) + (1 : Int32))] [] H Q else jm_w S 4 232 59 [.ref r0, .int x1, .int x2, .int x3, .int x4, .int ((p0 - p1) + (1 : Int32))] [] H Q := (js0 at232_49 rfl rfl rfl).trans ((jsci at232_50 rfl rfl).trans ((js0 at232_51 rfl rfl rfl).trans ((js1 at232_52 rfl rfl rfl).trans ((js1 at232_54 rfl rfl rfl).trans (jsif (P := 0 ≤ ((p0 - p1) + (1 : Int32))) at232_56 rfl rfl)))))
theorem at232_59 : jm_at 232 59 = some (.iconst 0) := rfl
theorem at232_60 : jm_at 232 60 = some (.goto 5) := rfl
theorem u232_59 {S : Option (Nat × (Nat → Int32))} {H : jm_H} {Q : Option Value → jm_H → Prop} {r0 : Nat} {x1 x2 x3 x4 x5 : Int32} : jm_w S 4 232 59 [.ref r0, .int x1, .int x2, .int x3, .int x4, .int x5] [] H Q = jm_w S 4 232 65 [.ref r0, .int x1, .int x2, .int x3, .int x4, .int x5] [.int (0 : Int32)] H Q := (jsci at232_59 rfl rfl).trans (js2 at232_60 rfl rfl)
theorem at232_63 : jm_at 232 63 = some (.iload 5) := rfl
theorem u232_63 {S : Option (Nat × (Nat → Int32))} {H : jm_H} {Q : Option Value → jm_H → Prop} {r0 : Nat} {x1 x2 x3 x4 x5 : Int32} : jm_w S 4 232 63 [.ref r0, .int x1, .int x2, .int x3, .int x4, .int x5] [] H Q = jm_w S 4 232 65 [.ref r0, .int x1, .int x2, .int x3, .int x4, .int x5] [.int x5] H Q := js1 at232_63 rfl rfl rfl
theorem at232_65 : jm_at 232 65 = some (.ireturn) := rfl
theorem u232_65 {S : Option (Nat × (Nat → Int32))} {H : jm_H} {Q : Option Value → jm_H → Prop} {r0 : Nat} {x1 x2 x3 x4 x5 p0 : Int32} : jm_w S 4 232 65 [.ref r0, .int x1, .int x2, .int x3, .int x4, .int x5] [.int p0] H Q = Q (some (.int p0)) H := jsret_i at232_65 rfl
theorem en232 {S : Option (Nat × (Nat → Int32))} {H : jm_H} {Q : Option Value → jm_H → Prop} {r0 : Nat} {x1 x2 x3 x4 : Int32} : jm_c S 232 [.ref r0, .int x1, .int x2, .int x3, .int x4] H Q = jm_w S 4 232 0 [.ref r0, .int x1, .int x2, .int x3, .int x4, .null] [] H Q := rfl
theorem at233_0 : jm_at 233 0 = some (.iload_n 1) := rfl
theorem at233_1 : jm_at 233 1 = some (.iload_n 2) := rfl
theorem at233_2 : jm_at 233 2 = some (.iload_n 3) := rfl
theorem at233_3 : jm_at 233 3 = some (.invokestatic 302) := rfl
theorem rv233i_302 : jm_rv 233 (.invokestatic 302) = (1, 220, 0, 0) := rfl
theorem u233_0 {S : Option (Nat × (Nat → Int32))} {H : jm_H} {Q : Option Value → jm_H → Prop} {r0 : Nat} {x1 x2 x3 x4 : Int32} : jm_w S 5 233 0 [.ref r0, .int x1, .int x2, .int x3, .int x4] [] H Q = jm_c S 220 [.int x1, .int x2, .int x3] H (fun v G => jm_w S 5 233 6 [.ref r0, .int x1, .int x2, .int x3, .int x4] (v.toList ++ []) G Q) := (js1 at233_0 rfl rfl rfl).trans ((js1 at233_1 rfl rfl rfl).trans ((js1 at233_2 rfl rfl rfl).trans (jscall (H := H) (as := [.int x1, .int x2, .int x3]) (q := []) at233_3 rfl rv233i_302 (jscut rfl rfl rfl (Nat.le_of_ble_eq_true rfl)) rfl (Nat.le_of_ble_eq_true rfl) rfl rfl)))
theorem at233_6 : jm_at 233 6 = some (.ifCond .eq 14) := rfl
theorem u233_6 {S : Option (Nat × (Nat → Int32))} {H : jm_H} {Q : Option Value → jm_H → Prop} {r0 : Nat} {x1 x2 x3 x4 p0 : Int32} : jm_w S 5 233 6 [.ref r0, .int x1, .int x2, .int x3, .int x4] [.int p0] H Q = if p0 = 0 then jm_w S 5 233 20 [.ref r0, .int x1, .int x2, .int x3, .int x4] [] H Q else jm_w S 5 233 9 [.ref r0, .int x1, .int x2, .int x3, .int x4] [] H Q := jsif (P := p0 = 0) at233_6 rfl rfl
theorem at233_9 : jm_at 233 9 = some (.iload 4) := rfl
theorem at233_11 : jm_at 233 11 = some (.iconst 0) := rfl
theorem at233_12 : jm_at 233 12 = some (.bipush 11) := rfl
theorem at233_14 : jm_at 233 14 = some (.invokestatic 218) := rfl
theorem rv233i_218 : jm_rv 233 (.invokestatic 218) = (1, 176, 0, 0) := rfl
theorem u233_9 {S : Option (Nat × (Nat → Int32))} {H : jm_H} {Q : Option Value → jm_H → Prop} {r0 : Nat} {x1 x2 x3 x4 : Int32} : jm_w S 5 233 9 [.ref r0, .int x1, .int x2, .int x3, .int x4] [] H Q = jm_c S 176 [.int x4, .int (0 : Int32), .int (11 : Int32)] H (fun v G => jm_w S 5 233 17 [.ref r0, .int x1, .int x2, .int x3, .int x4] (v.toList ++ []) G Q) := (js1 at233_9 rfl rfl rfl).trans ((jsci at233_11 rfl rfl).trans ((jscb at233_12 rfl rfl).trans (jscall (H := H) (as := [.int x4, .int (0 : Int32), .int (11 : Int32)]) (q := []) at233_14 rfl rv233i_218 (jscut rfl rfl rfl (Nat.le_of_ble_eq_true rfl)) rfl (Nat.le_of_ble_eq_true rfl) rfl rfl)))
theorem at233_17 : jm_at 233 17 = some (.ifCond .ne 7) := rfl
theorem u233_17 {S : Option (Nat × (Nat → Int32))} {H : jm_H} {Q : Option Value → jm_H → Prop} {r0 : Nat} {x1 x2 x3 x4 p0 : Int32} : jm_w S 5 233 17 [.ref r0, .int x1, .int x2, .int x3, .int x4] [.int p0] H Q = if ¬ p0 = 0 then jm_w S 5 233 24 [.ref r0, .int x1, .int x2, .int x3, .int x4] [] H Q else jm_w S 5 233 20 [.ref r0, .int x1, .int x2, .int x3, .int x4] [] H Q := jsif (P := ¬ p0 = 0) at233_17 rfl rfl
theorem at233_20 : jm_at 233 20 = some (.ldc_w 410) := rfl
theorem rv233l_410 : jm_rv 233 (.ldc_w 410) = (8, 0, 0, (-100000)) := rfl
theorem at233_23 : jm_at 233 23 = some (.ireturn) := rfl
theorem u233_20 {S : Option (Nat × (Nat → Int32))} {H : jm_H} {Q : Option Value → jm_H → Prop} {r0 : Nat} {x1 x2 x3 x4 : Int32} : jm_w S 5 233 20 [.ref r0, .int x1, .int x2, .int x3, .int x4] [] H Q = Q (some (.int (-100000 : Int32))) H := (jskw at233_20 rv233l_410 rfl rfl).trans (jsret_i at233_23 rfl)
theorem at233_24 : jm_at 233 24 = some (.iload 4) := rfl
theorem at233_26 : jm_at 233 26 = some (.bipush 9) := rfl
theorem at233_28 : jm_at 233 28 = some (.if_icmp .ne 9) := rfl
theorem u233_24 {S : Option (Nat × (Nat → Int32))} {H : jm_H} {Q : Option Value → jm_H → Prop} {r0 : Nat} {x1 x2 x3 x4 : Int32} : jm_w S 5 233 24 [.ref r0, .int x1, .int x2, .int x3, .int x4] [] H Q = if ¬ x4 = (9 : Int32) then jm_w S 5 233 37 [.ref r0, .int x1, .int x2, .int x3, .int x4] [] H Q else jm_w S 5 233 31 [.ref r0, .int x1, .int x2, .int x3, .int x4] [] H Q := (js1 at233_24 rfl rfl rfl).trans ((jscb at233_26 rfl rfl).trans (jsif (P := ¬ x4 = (9 : Int32)) at233_28 rfl rfl))
theorem at233_31 : jm_at 233 31 = some (.iload_n 1) := rfl
theorem at233_32 : jm_at 233 32 = some (.iload_n 3) := rfl
theorem at233_33 : jm_at 233 33 = some (.invokestatic 259) := rfl
theorem rv233i_259 : jm_rv 233 (.invokestatic 259) = (1, 194, 0, 0) := rfl
theorem u233_31 {S : Option (Nat × (Nat → Int32))} {H : jm_H} {Q : Option Value → jm_H → Prop} {r0 : Nat} {x1 x2 x3 x4 : Int32} : jm_w S 5 233 31 [.ref r0, .int x1, .int x2, .int x3, .int x4] [] H Q = jm_c S 194 [.int x1, .int x3] H (fun v G => jm_w S 5 233 36 [.ref r0, .int x1, .int x2, .int x3, .int x4] (v.toList ++ []) G Q) := (js1 at233_31 rfl rfl rfl).trans ((js1 at233_32 rfl rfl rfl).trans (jscall (H := H) (as := [.int x1, .int x3]) (q := []) at233_33 rfl rv233i_259 (jscut rfl rfl rfl (Nat.le_of_ble_eq_true rfl)) rfl (Nat.le_of_ble_eq_true rfl) rfl rfl))
theorem at233_36 : jm_at 233 36 = some (.ireturn) := rfl
theorem u233_36 {S : Option (Nat × (Nat → Int32))} {H : jm_H} {Q : Option Value → jm_H → Prop} {r0 : Nat} {x1 x2 x3 x4 p0 : Int32} : jm_w S 5 233 36 [.ref r0, .int x1, .int x2, .int x3, .int x4] [.int p0] H Q = Q (some (.int p0)) H := jsret_i at233_36 rfl
theorem at233_37 : jm_at 233 37 = some (.iload_n 1) := rfl
theorem at233_38 : jm_at 233 38 = some (.iload_n 3) := rfl
theorem at233_39 : jm_at 233 39 = some (.invokestatic 276) := rfl
theorem rv233i_276 : jm_rv 233 (.invokestatic 276) = (1, 204, 0, 0) := rfl
theorem u233_37 {S : Option (Nat × (Nat → Int32))} {H : jm_H} {Q : Option Value → jm_H → Prop} {r0 : Nat} {x1 x2 x3 x4 : Int32} : jm_w S 5 233 37 [.ref r0, .int x1, .int x2, .int x3, .int x4] [] H Q = jm_c S 204 [.int x1, .int x3] H (fun v G => jm_w S 5 233 42 [.ref r0, .int x1, .int x2, .int x3, .int x4] (v.toList ++ []) G Q) := (js1 at233_37 rfl rfl rfl).trans ((js1 at233_38 rfl rfl rfl).trans (jscall (H := H) (as := [.int x1, .int x3]) (q := []) at233_39 rfl rv233i_276 (jscut rfl rfl rfl (Nat.le_of_ble_eq_true rfl)) rfl (Nat.le_of_ble_eq_true rfl) rfl rfl))
theorem at233_42 : jm_at 233 42 = some (.ifCond .eq 7) := rfl
theorem u233_42 {S : Option (Nat × (Nat → Int32))} {H : jm_H} {Q : Option Value → jm_H → Prop} {r0 : Nat} {x1 x2 x3 x4 p0 : Int32} : jm_w S 5 233 42 [.ref r0, .int x1, .int x2, .int x3, .int x4] [.int p0] H Q = if p0 = 0 then jm_w S 5 233 49 [.ref r0, .int x1, .int x2, .int x3, .int x4] [] H Q else jm_w S 5 233 45 [.ref r0, .int x1, .int x2, .int x3, .int x4] [] H Q := jsif (P := p0 = 0) at233_42 rfl rfl
theorem at233_45 : jm_at 233 45 = some (.ldc_w 410) := rfl
theorem at233_48 : jm_at 233 48 = some (.ireturn) := rfl
theorem u233_45 {S : Option (Nat × (Nat → Int32))} {H : jm_H} {Q : Option Value → jm_H → Prop} {r0 : Nat} {x1 x2 x3 x4 : Int32} : jm_w S 5 233 45 [.ref r0, .int x1, .int x2, .int x3, .int x4] [] H Q = Q (some (.int (-100000 : Int32))) H := (jskw at233_45 rv233l_410 rfl rfl).trans (jsret_i at233_48 rfl)
theorem at233_49 : jm_at 233 49 = some (.iload 4) := rfl
theorem at233_51 : jm_at 233 51 = some (.ifCond .ne 9) := rfl
theorem u233_49 {S : Option (Nat × (Nat → Int32))} {H : jm_H} {Q : Option Value → jm_H → Prop} {r0 : Nat} {x1 x2 x3 x4 : Int32} : jm_w S 5 233 49 [.ref r0, .int x1, .int x2, .int x3, .int x4] [] H Q = if ¬ x4 = 0 then jm_w S 5 233 60 [.ref r0, .int x1, .int x2, .int x3, .int x4] [] H Q else jm_w S 5 233 54 [.ref r0, .int x1, .int x2, .int x3, .int x4] [] H Q := (js1 at233_49 rfl rfl rfl).trans (jsif (P := ¬ x4 = 0) at233_51 rfl rfl)
theorem at233_54 : jm_at 233 54 = some (.iload_n 1) := rfl
theorem at233_55 : jm_at 233 55 = some (.iload_n 3) := rfl
theorem at233_56 : jm_at 233 56 = some (.invokestatic 348) := rfl
theorem rv233i_348 : jm_rv 233 (.invokestatic 348) = (1, 206, 0, 0) := rfl
theorem u233_54 {S : Option (Nat × (Nat → Int32))} {H : jm_H} {Q : Option Value → jm_H → Prop} {r0 : Nat} {x1 x2 x3 x4 : Int32} : jm_w S 5 233 54 [.ref r0, .int x1, .int x2, .int x3, .int x4] [] H Q = jm_c S 206 [.int x1, .int x3] H (fun v G => jm_w S 5 233 59 [.ref r0, .int x1, .int x2, .int x3, .int x4] (v.toList ++ []) G Q) := (js1 at233_54 rfl rfl rfl).trans ((js1 at233_55 rfl rfl rfl).trans (jscall (H := H) (as := [.int x1, .int x3]) (q := []) at233_56 rfl rv233i_348 (jscut rfl rfl rfl (Nat.le_of_ble_eq_true rfl)) rfl (Nat.le_of_ble_eq_true rfl) rfl rfl))
theorem at233_59 : jm_at 233 59 = some (.ireturn) := rfl
theorem u233_59 {S : Option (Nat × (Nat → Int32))} {H : jm_H} {Q : Option Value → jm_H → Prop} {r0 : Nat} {x1 x2 x3 x4 p0 : Int32} : jm_w S 5 233 59 [.ref r0, .int x1, .int x2, .int x3, .int x4] [.int p0] H Q = Q (some (.int p0)) H := jsret_i at233_59 rfl
theorem at233_60 : jm_at 233 60 = some (.iload 4) := rfl
theorem at233_62 : jm_at 233 62 = some (.bipush 8) := rfl
theorem at233_64 : jm_at 233 64 = some (.if_icmp .ne 11) := rfl
theorem u233_60 {S : Option (Nat × (Nat → Int32))} {H : jm_H} {Q : Option Value → jm_H → Prop} {r0 : Nat} {x1 x2 x3 x4 : Int32} : jm_w S 5 233 60 [.ref r0, .int x1, .int x2, .int x3, .int x4] [] H Q = if ¬ x4 = (8 : Int32) then jm_w S 5 233 75 [.ref r0, .int x1, .int x2, .int x3, .int x4] [] H Q else jm_w S 5 233 67 [.ref r0, .int x1, .int x2, .int x3, .int x4] [] H Q := (js1 at233_60 rfl rfl rfl).trans ((jscb at233_62 rfl rfl).trans (jsif (P := ¬ x4 = (8 : Int32)) at233_64 rfl rfl))
theorem at233_67 : jm_at 233 67 = some (.aload_n 0) := rfl
theorem at233_68 : jm_at 233 68 = some (.iload_n 1) := rfl
theorem at233_69 : jm_at 233 69 = some (.iload_n 2) := rfl
theorem at233_70 : jm_at 233 70 = some (.iload_n 3) := rfl
theorem at233_71 : jm_at 233 71 = some (.invokevirtual 411) := rfl
theorem rv233i_411 : jm_rv 233 (.invokevirtual 411) = (2, 234, 0, 0) := rfl
theorem u233_67 {S : Option (Nat × (Nat → Int32))} {H : jm_H} {Q : Option Value → jm_H → Prop} {r0 : Nat} {x1 x2 x3 x4 : Int32} (h0 : jm_tg H r0 = 13) : jm_w S 5 233 67 [.ref r0, .int x1, .int x2, .int x3, .int x4] [] H Q = jm_c S 234 [.ref r0, .int x1, .int x2, .int x3] H (fun v G => jm_w S 5 233 74 [.ref r0, .int x1, .int x2, .int x3, .int x4] (v.toList ++ []) G Q) := (js1 at233_67 rfl rfl rfl).trans ((js1 at233_68 rfl rfl rfl).trans ((js1 at233_69 rfl rfl rfl).trans ((js1 at233_70 rfl rfl rfl).trans (jscall (H := H) (as := [.ref r0, .int x1, .int x2, .int x3]) (q := []) at233_71 rfl rv233i_411 (jscutV rfl rfl rfl (Nat.le_of_ble_eq_true rfl) rfl h0) rfl (Nat.le_of_ble_eq_true rfl) rfl rfl))))
theorem at233_74 : jm_at 233 74 = some (.ireturn) := rfl
theorem u233_74 {S : Option (Nat × (Nat → Int32))} {H : jm_H} {Q : Option Value → jm_H → Prop} {r0 : Nat} {x1 x2 x3 x4 p0 : Int32} : jm_w S 5 233 74 [.ref r0, .int x1, .int x2, .int x3, .int x4] [.int p0] H Q = Q (some (.int p0)) H := jsret_i at233_74 rfl
theorem at233_75 : jm_at 233 75 = some (.iload 4) := rfl
theorem at233_77 : jm_at 233 77 = some (.bipush 10) := rfl
theorem at233_79 : jm_at 233 79 = some (.if_icmp .ne 28) := rfl
theorem u233_75 {S : Option (Nat × (Nat → Int32))} {H : jm_H} {Q : Option Value → jm_H → Prop} {r0 : Nat} {x1 x2 x3 x4 : Int32} : jm_w S 5 233 75 [.ref r0, .int x1, .int x2, .int x3, .int x4] [] H Q = if ¬ x4 = (10 : Int32) then jm_w S 5 233 107 [.ref r0, .int x1, .int x2, .int x3, .int x4] [] H Q else jm_w S 5 233 82 [.ref r0, .int x1, .int x2, .int x3, .int x4] [] H Q := (js1 at233_75 rfl rfl rfl).trans ((jscb at233_77 rfl rfl).trans (jsif (P := ¬ x4 = (10 : Int32)) at233_79 rfl rfl))
theorem at233_82 : jm_at 233 82 = some (.iload_n 3) := rfl
theorem at233_83 : jm_at 233 83 = some (.iload_n 1) := rfl
theorem at233_84 : jm_at 233 84 = some (.invokestatic 280) := rfl
theorem rv233i_280 : jm_rv 233 (.invokestatic 280) = (1, 191, 0, 0) := rfl
theorem u233_82 {S : Option (Nat × (Nat → Int32))} {H : jm_H} {Q : Option Value → jm_H → Prop} {r0 : Nat} {x1 x2 x3 x4 : Int32} : jm_w S 5 233 82 [.ref r0, .int x1, .int x2, .int x3, .int x4] [] H Q = jm_c S 191 [.int x1] H (fun v G => jm_w S 5 233 87 [.ref r0, .int x1, .int x2, .int x3, .int x4] (v.toList ++ [.int x3]) G Q) := (js1 at233_82 rfl rfl rfl).trans ((js1 at233_83 rfl rfl rfl).trans (jscall (H := H) (as := [.int x1]) (q := [.int x3]) at233_84 rfl rv233i_280 (jscut rfl rfl rfl (Nat.le_of_ble_eq_true rfl)) rfl (Nat.le_of_ble_eq_true rfl) rfl rfl))
theorem at233_87 : jm_at 233 87 = some (.iconst 1) := rfl
theorem at233_88 : jm_at 233 88 = some (.isub) := rfl
theorem at233_89 : jm_at 233 89 = some (.if_icmp .ne 8) := rfl
theorem u233_87 {S : Option (Nat × (Nat → Int32))} {H : jm_H} {Q : Option Value → jm_H → Prop} {r0 : Nat} {x1 x2 x3 x4 p0 p1 : Int32} : jm_w S 5 233 87 [.ref r0, .int x1, .int x2, .int x3, .int x4] [.int p1, .int p0] H Q = if ¬ p0 = (p1 - (1 : Int32)) then jm_w S 5 233 97 [.ref r0, .int x1, .int x2, .int x3, .int x4] [] H Q else jm_w S 5 233 92 [.ref r0, .int x1, .int x2, .int x3, .int x4] [] H Q := (jsci at233_87 rfl rfl).trans ((js0 at233_88 rfl rfl rfl).trans (jsif (P := ¬ p0 = (p1 - (1 : Int32))) at233_89 rfl rfl))
theorem at233_92 : jm_at 233 92 = some (.bipush (-2)) := rfl
theorem at233_94 : jm_at 233 94 = some (.goto 12) := rfl
theorem u233_92 {S : Option (Nat × (Nat → Int32))} {H : jm_H} {Q : Option Value → jm_H → Prop} {r0 : Nat} {x1 x2 x3 x4 : Int32} : jm_w S 5 233 92 [.ref r0, .int x1, .int x2, .int x3, .int x4] [] H Q = jm_w S 5 233 106 [.ref r0, .int x1, .int x2, .int x3, .int x4] [.int (-2 : Int32)] H Q := (jscb at233_92 rfl rfl).trans (js2 at233_94 rfl rfl)
theorem at233_97 : jm_at 233 97 = some (.iload_n 3) := rfl
theorem at233_98 : jm_at 233 98 = some (.iconst 1) := rfl
theorem at233_99 : jm_at 233 99 = some (.iadd) := rfl
theorem at233_100 : jm_at 233 100 = some (.iconst 1) := rfl
theorem at233_101 : jm_at 233 101 = some (.iload_n 1) := rfl
theorem at233_102 : jm_at 233 102 = some (.ishl) := rfl
theorem at233_103 : jm_at 233 103 = some (.iconst 1) := rfl
theorem at233_104 : jm_at 233 104 = some (.isub) := rfl
theorem at233_105 : jm_at 233 105 = some (.iand) := rfl
theorem u233_97 {S : Option (Nat × (Nat → Int32))} {H : jm_H} {Q : Option Value → jm_H → Prop} {r0 : Nat} {x1 x2 x3 x4 : Int32} : jm_w S 5 233 97 [.ref r0, .int x1, .int x2, .int x3, .int x4] [] H Q = jm_w S 5 233 106 [.ref r0, .int x1, .int x2, .int x3, .int x4] [.int ((x3 + (1 : Int32)) &&& (((1 : Int32) <<< (x1 &&& 31)) - (1 : Int32)))] H Q := (js1 at233_97 rfl rfl rfl).trans ((jsci at233_98 rfl rfl).trans ((js0 at233_99 rfl rfl rfl).trans ((jsci at233_100 rfl rfl).trans ((js1 at233_101 rfl rfl rfl).trans ((js0 at233_102 rfl rfl rfl).trans ((jsci at233_103 rfl rfl).trans ((js0 at233_104 rfl rfl rfl).trans (js0 at233_105 rfl rfl rfl))))))))
theorem at233_106 : jm_at 233 106 = some (.ireturn) := rfl
theorem u233_106 {S : Option (Nat × (Nat → Int32))} {H : jm_H} {Q : Option Value → jm_H → Prop} {r0 : Nat} {x1 x2 x3 x4 p0 : Int32} : jm_w S 5 233 106 [.ref r0, .int x1, .int x2, .int x3, .int x4] [.int p0] H Q = Q (some (.int p0)) H := jsret_i at233_106 rfl
theorem at233_107 : jm_at 233 107 = some (.iload 4) := rfl
theorem at233_109 : jm_at 233 109 = some (.bipush 11) := rfl
theorem at233_111 : jm_at 233 111 = some (.if_icmp .ne 28) := rfl
theorem u233_107 {S : Option (Nat × (Nat → Int32))} {H : jm_H} {Q : Option Value → jm_H → Prop} {r0 : Nat} {x1 x2 x3 x4 : Int32} : jm_w S 5 233 107 [.ref r0, .int x1, .int x2, .int x3, .int x4] [] H Q = if ¬ x4 = (11 : Int32) then jm_w S 5 233 139 [.ref r0, .int x1, .int x2, .int x3, .int x4] [] H Q else jm_w S 5 233 114 [.ref r0, .int x1, .int x2, .int x3, .int x4] [] H Q := (js1 at233_107 rfl rfl rfl).trans ((jscb at233_109 rfl rfl).trans (jsif (P := ¬ x4 = (11 : Int32)) at233_111 rfl rfl))
theorem at233_114 : jm_at 233 114 = some (.iload_n 3) := rfl
theorem at233_115 : jm_at 233 115 = some (.iload_n 1) := rfl
theorem at233_116 : jm_at 233 116 = some (.invokestatic 280) := rfl
theorem u233_114 {S : Option (Nat × (Nat → Int32))} {H : jm_H} {Q : Option Value → jm_H → Prop} {r0 : Nat} {x1 x2 x3 x4 : Int32} : jm_w S 5 233 114 [.ref r0, .int x1, .int x2, .int x3, .int x4] [] H Q = jm_c S 191 [.int x1] H (fun v G => jm_w S 5 233 119 [.ref r0, .int x1, .int x2, .int x3, .int x4] (v.toList ++ [.int x3]) G Q) := (js1 at233_114 rfl rfl rfl).trans ((js1 at233_115 rfl rfl rfl).trans (jscall (H := H) (as := [.int x1]) (q := [.int x3]) at233_116 rfl rv233i_280 (jscut rfl rfl rfl (Nat.le_of_ble_eq_true rfl)) rfl (Nat.le_of_ble_eq_true rfl) rfl rfl))
theorem at233_119 : jm_at 233 119 = some (.iconst 1) := rfl
theorem at233_120 : jm_at 233 120 = some (.iadd) := rfl
theorem at233_121 : jm_at 233 121 = some (.if_icmp .ne 8) := rfl
theorem u233_119 {S : Option (Nat × (Nat → Int32))} {H : jm_H} {Q : Option Value → jm_H → Prop} {r0 : Nat} {x1 x2 x3 x4 p0 p1 : Int32} : jm_w S 5 233 119 [.ref r0, .int x1, .int x2, .int x3, .int x4] [.int p1, .int p0] H Q = if ¬ p0 = (p1 + (1 : Int32)) then jm_w S 5 233 129 [.ref r0, .int x1, .int x2, .int x3, .int x4] [] H Q else jm_w S 5 233 124 [.ref r0, .int x1, .int x2, .int x3, .int x4] [] H Q := (jsci at233_119 rfl rfl).trans ((js0 at233_120 rfl rfl rfl).trans (jsif (P := ¬ p0 = (p1 + (1 : Int32))) at233_121 rfl rfl))
theorem at233_124 : jm_at 233 124 = some (.bipush (-2)) := rfl
theorem at233_126 : jm_at 233 126 = some (.goto 12) := rfl
theorem u233_124 {S : Option (Nat × (Nat → Int32))} {H : jm_H} {Q : Option Value → jm_H → Prop} {r0 : Nat} {x1 x2 x3 x4 : Int32} : jm_w S 5 233 124 [.ref r0, .int x1, .int x2, .int x3, .int x4] [] H Q = jm_w S 5 233 138 [.ref r0, .int x1, .int x2, .int x3, .int x4] [.int (-2 : Int32)] H Q := (jscb at233_124 rfl rfl).trans (js2 at233_126 rfl rfl)
theorem at233_129 : jm_at 233 129 = some (.iload_n 3) := rfl
theorem at233_130 : jm_at 233 130 = some (.iconst 1) := rfl
theorem at233_131 : jm_at 233 131 = some (.isub) := rfl
theorem at233_132 : jm_at 233 132 = some (.iconst 1) := rfl
theorem at233_133 : jm_at 233 133 = some (.iload_n 1) := rfl
theorem at233_134 : jm_at 233 134 = some (.ishl) := rfl
theorem at233_135 : jm_at 233 135 = some (.iconst 1) := rfl
theorem at233_136 : jm_at 233 136 = some (.isub) := rfl
theorem at233_137 : jm_at 233 137 = some (.iand) := rfl
theorem u233_129 {S : Option (Nat × (Nat → Int32))} {H : jm_H} {Q : Option Value → jm_H → Prop} {r0 : Nat} {x1 x2 x3 x4 : Int32} : jm_w S 5 233 129 [.ref r0, .int x1, .int x2, .int x3, .int x4] [] H Q = jm_w S 5 233 138 [.ref r0, .int x1, .int x2, .int x3, .int x4] [.int ((x3 - (1 : Int32)) &&& (((1 : Int32) <<< (x1 &&& 31)) - (1 : Int32)))] H Q := (js1 at233_129 rfl rfl rfl).trans ((jsci at233_130 rfl rfl).trans ((js0 at233_131 rfl rfl rfl).trans ((jsci at233_132 rfl rfl).trans ((js1 at233_133 rfl rfl rfl).trans ((js0 at233_134 rfl rfl rfl).trans ((jsci at233_135 rfl rfl).trans ((js0 at233_136 rfl rfl rfl).trans (js0 at233_137 rfl rfl rfl))))))))
theorem at233_138 : jm_at 233 138 = some (.ireturn) := rfl
theorem u233_138 {S : Option (Nat × (Nat → Int32))} {H : jm_H} {Q : Option Value → jm_H → Prop} {r0 : Nat} {x1 x2 x3 x4 p0 : Int32} : jm_w S 5 233 138 [.ref r0, .int x1, .int x2, .int x3, .int x4] [.int p0] H Q = Q (some (.int p0)) H := jsret_i at233_138 rfl
theorem at233_139 : jm_at 233 139 = some (.iload_n 3) := rfl
theorem at233_140 : jm_at 233 140 = some (.ifCond .ne 7) := rfl
theorem u233_139 {S : Option (Nat × (Nat → Int32))} {H : jm_H} {Q : Option Value → jm_H → Prop} {r0 : Nat} {x1 x2 x3 x4 : Int32} : jm_w S 5 233 139 [.ref r0, .int x1, .int x2, .int x3, .int x4] [] H Q = if ¬ x3 = 0 then jm_w S 5 233 147 [.ref r0, .int x1, .int x2, .int x3, .int x4] [] H Q else jm_w S 5 233 143 [.ref r0, .int x1, .int x2, .int x3, .int x4] [] H Q := (js1 at233_139 rfl rfl rfl).trans (jsif (P := ¬ x3 = 0) at233_140 rfl rfl)
theorem at233_143 : jm_at 233 143 = some (.ldc_w 410) := rfl
theorem at233_146 : jm_at 233 146 = some (.ireturn) := rfl
theorem u233_143 {S : Option (Nat × (Nat → Int32))} {H : jm_H} {Q : Option Value → jm_H → Prop} {r0 : Nat} {x1 x2 x3 x4 : Int32} : jm_w S 5 233 143 [.ref r0, .int x1, .int x2, .int x3, .int x4] [] H Q = Q (some (.int (-100000 : Int32))) H := (jskw at233_143 rv233l_410 rfl rfl).trans (jsret_i at233_146 rfl)
theorem at233_147 : jm_at 233 147 = some (.aload_n 0) := rfl
theorem at233_148 : jm_at 233 148 = some (.iload_n 1) := rfl
theorem at233_149 : jm_at 233 149 = some (.iload_n 2) := rfl
theorem at233_150 : jm_at 233 150 = some (.iload_n 3) := rfl
theorem at233_151 : jm_at 233 151 = some (.invokevirtual 345) := rfl
theorem rv233i_345 : jm_rv 233 (.invokevirtual 345) = (2, 193, 0, 0) := rfl
theorem u233_147 {S : Option (Nat × (Nat → Int32))} {H : jm_H} {Q : Option Value → jm_H → Prop} {r0 : Nat} {x1 x2 x3 x4 : Int32} (h0 : jm_tg H r0 = 13) : jm_w S 5 233 147 [.ref r0, .int x1, .int x2, .int x3, .int x4] [] H Q = jm_c S 193 [.ref r0, .int x1, .int x2, .int x3] H (fun v G => jm_w S 5 233 154 [.ref r0, .int x1, .int x2, .int x3, .int x4] (v.toList ++ []) G Q) := (js1 at233_147 rfl rfl rfl).trans ((js1 at233_148 rfl rfl rfl).trans ((js1 at233_149 rfl rfl rfl).trans ((js1 at233_150 rfl rfl rfl).trans (jscall (H := H) (as := [.ref r0, .int x1, .int x2, .int x3]) (q := []) at233_151 rfl rv233i_345 (jscutV rfl rfl rfl (Nat.le_of_ble_eq_true rfl) rfl h0) rfl (Nat.le_of_ble_eq_true rfl) rfl rfl))))
theorem at233_154 : jm_at 233 154 = some (.iload 4) := rfl
theorem at233_156 : jm_at 233 156 = some (.iconst 5) := rfl
theorem at233_157 : jm_at 233 157 = some (.if_icmp .le 7) := rfl
theorem u233_154 {S : Option (Nat × (Nat → Int32))} {H : jm_H} {Q : Option Value → jm_H → Prop} {r0 : Nat} {x1 x2 x3 x4 : Int32} : jm_w S 5 233 154 [.ref r0, .int x1, .int x2, .int x3, .int x4] [] H Q = if x4 ≤ (5 : Int32) then jm_w S 5 233 164 [.ref r0, .int x1, .int x2, .int x3, .int x4] [] H Q else jm_w S 5 233 160 [.ref r0, .int x1, .int x2, .int x3, .int x4] [] H Q := (js1 at233_154 rfl rfl rfl).trans ((jsci at233_156 rfl rfl).trans (jsif (P := x4 ≤ (5 : Int32)) at233_157 rfl rfl))
theorem at233_160 : jm_at 233 160 = some (.aload_n 0) := rfl
theorem at233_161 : jm_at 233 161 = some (.invokevirtual 414) := rfl
theorem rv233i_414 : jm_rv 233 (.invokevirtual 414) = (2, 235, 0, 0) := rfl
theorem u233_160 {S : Option (Nat × (Nat → Int32))} {H : jm_H} {Q : Option Value → jm_H → Prop} {r0 : Nat} {x1 x2 x3 x4 : Int32} (h0 : jm_tg H r0 = 13) : jm_w S 5 233 160 [.ref r0, .int x1, .int x2, .int x3, .int x4] [] H Q = jm_c S 235 [.ref r0] H (fun v G => jm_w S 5 233 164 [.ref r0, .int x1, .int x2, .int x3, .int x4] (v.toList ++ []) G Q) := (js1 at233_160 rfl rfl rfl).trans (jscall (H := H) (as := [.ref r0]) (q := []) at233_161 rfl rv233i_414 (jscutV rfl rfl rfl (Nat.le_of_ble_eq_true rfl) rfl h0) rfl (Nat.le_of_ble_eq_true rfl) rfl rfl)
theorem at233_164 : jm_at 233 164 = some (.aload_n 0) := rfl
theorem at233_165 : jm_at 233 165 = some (.iload 4) := rfl
theorem at233_167 : jm_at 233 167 = some (.invokevirtual 417) := rfl
theorem rv233i_417 : jm_rv 233 (.invokevirtual 417) = (2, 236, 0, 0) := rfl
theorem u233_164 {S : Option (Nat × (Nat → Int32))} {H : jm_H} {Q : Option Value → jm_H → Prop} {r0 : Nat} {x1 x2 x3 x4 : Int32} (h0 : jm_tg H r0 = 13) : jm_w S 5 233 164 [.ref r0, .int x1, .int x2, .int x3, .int x4] [] H Q = jm_c S 236 [.ref r0, .int x4] H (fun v G => jm_w S 5 233 170 [.ref r0, .int x1, .int x2, .int x3, .int x4] (v.toList ++ []) G Q) := (js1 at233_164 rfl rfl rfl).trans ((js1 at233_165 rfl rfl rfl).trans (jscall (H := H) (as := [.ref r0, .int x4]) (q := []) at233_167 rfl rv233i_417 (jscutV rfl rfl rfl (Nat.le_of_ble_eq_true rfl) rfl h0) rfl (Nat.le_of_ble_eq_true rfl) rfl rfl))
theorem at233_170 : jm_at 233 170 = some (.ireturn) := rfl
theorem u233_170 {S : Option (Nat × (Nat → Int32))} {H : jm_H} {Q : Option Value → jm_H → Prop} {r0 : Nat} {x1 x2 x3 x4 p0 : Int32} : jm_w S 5 233 170 [.ref r0, .int x1, .int x2, .int x3, .int x4] [.int p0] H Q = Q (some (.int p0)) H := jsret_i at233_170 rfl
theorem en233 {S : Option (Nat × (Nat → Int32))} {H : jm_H} {Q : Option Value → jm_H → Prop} {r0 : Nat} {x1 x2 x3 x4 : Int32} : jm_c S 233 [.ref r0, .int x1, .int x2, .int x3, .int x4] H Q = jm_w S 5 233 0 [.ref r0, .int x1, .int x2, .int x3, .int x4] [] H Q := rfl
theorem at234_0 : jm_at 234 0 = some (.iload_n 3) := rfl
theorem at234_1 : jm_at 234 1 = some (.ifCond .ne 5) := rfl
theorem u234_0 {S : Option (Nat × (Nat → Int32))} {H : jm_H} {Q : Option Value → jm_H → Prop} {r0 : Nat} {x1 x2 x3 : Int32} : jm_w S 4 234 0 [.ref r0, .int x1, .int x2, .int x3, .null, .null, .null, .null, .null, .null] [] H Q = if ¬ x3 = 0 then jm_w S 4 234 6 [.ref r0, .int x1, .int x2, .int x3, .null, .null, .null, .null, .null, .null] [] H Q else jm_w S 4 234 4 [.ref r0, .int x1, .int x2, .int x3, .null, .null, .null, .null, .null, .null] [] H Q := (js1 at234_0 rfl rfl rfl).trans (jsif (P := ¬ x3 = 0) at234_1 rfl rfl)
theorem at234_4 : jm_at 234 4 = some (.iconst 0) := rfl
theorem at234_5 : jm_at 234 5 = some (.ireturn) := rfl
theorem u234_4 {S : Option (Nat × (Nat → Int32))} {H : jm_H} {Q : Option Value → jm_H → Prop} {r0 : Nat} {x1 x2 x3 : Int32} : jm_w S 4 234 4 [.ref r0, .int x1, .int x2, .int x3, .null, .null, .null, .null, .null, .null] [] H Q = Q (some (.int (0 : Int32))) H := (jsci at234_4 rfl rfl).trans (jsret_i at234_5 rfl)
theorem at234_6 : jm_at 234 6 = some (.aload_n 0) := rfl
theorem at234_7 : jm_at 234 7 = some (.iload_n 1) := rfl
theorem at234_8 : jm_at 234 8 = some (.iload_n 2) := rfl
theorem at234_9 : jm_at 234 9 = some (.iload_n 3) := rfl
theorem at234_10 : jm_at 234 10 = some (.invokevirtual 345) := rfl
theorem rv234i_345 : jm_rv 234 (.invokevirtual 345) = (2, 193, 0, 0) := rfl
theorem u234_6 {S : Option (Nat × (Nat → Int32))} {H : jm_H} {Q : Option Value → jm_H → Prop} {r0 : Nat} {x1 x2 x3 : Int32} (h0 : jm_tg H r0 = 13) : jm_w S 4 234 6 [.ref r0, .int x1, .int x2, .int x3, .null, .null, .null, .null, .null, .null] [] H Q = jm_c S 193 [.ref r0, .int x1, .int x2, .int x3] H (fun v G => jm_w S 4 234 13 [.ref r0, .int x1, .int x2, .int x3, .null, .null, .null, .null, .null, .null] (v.toList ++ []) G Q) := (js1 at234_6 rfl rfl rfl).trans ((js1 at234_7 rfl rfl rfl).trans ((js1 at234_8 rfl rfl rfl).trans ((js1 at234_9 rfl rfl rfl).trans (jscall (H := H) (as := [.ref r0, .int x1, .int x2, .int x3]) (q := []) at234_10 rfl rv234i_345 (jscutV rfl rfl rfl (Nat.le_of_ble_eq_true rfl) rfl h0) rfl (Nat.le_of_ble_eq_true rfl) rfl rfl))))
theorem at234_13 : jm_at 234 13 = some (.aload_n 0) := rfl
theorem at234_14 : jm_at 234 14 = some (.getfield 331) := rfl
theorem rv234g_331 : jm_rv 234 (.getfield 331) = (0, 12, 49, 0) := rfl
theorem at234_17 : jm_at 234 17 = some (.ifCond .lt 18) := rfl
theorem u234_13 {S : Option (Nat × (Nat → Int32))} {H : jm_H} {Q : Option Value → jm_H → Prop} {r0 : Nat} {x1 x2 x3 : Int32} (h0 : jm_tg H r0 = 13) : jm_w S 4 234 13 [.ref r0, .int x1, .int x2, .int x3, .null, .null, .null, .null, .null, .null] [] H Q = if (jm_I H r0 49) < 0 then jm_w S 4 234 35 [.ref r0, .int x1, .int x2, .int x3, .null, .null, .null, .null, .null, .null] [] H Q else jm_w S 4 234 20 [.ref r0, .int x1, .int x2, .int x3, .null, .null, .null, .null, .null, .null] [] H Q := (js1 at234_13 rfl rfl rfl).trans ((jsgI (H := H) at234_14 rv234g_331 (Or.inl rfl) h0 rfl).trans (jsif (P := (jm_I H r0 49) < 0) at234_17 rfl rfl))
theorem at234_20 : jm_at 234 20 = some (.aload_n 0) := rfl
theorem at234_21 : jm_at 234 21 = some (.getfield 328) := rfl
theorem rv234g_328 : jm_rv 234 (.getfield 328) = (0, 12, 48, 0) := rfl
theorem at234_24 : jm_at 234 24 = some (.i2l) := rfl
theorem at234_25 : jm_at 234 25 = some (.aload_n 0) := rfl
theorem at234_26 : jm_at 234 26 = some (.getfield 331) := rfl
theorem at234_29 : jm_at 234 29 = some (.lshl) := rfl
theorem at234_30 : jm_at 234 30 = some (.lstore 4) := rfl
theorem at234_32 : jm_at 234 32 = some (.goto 69) := rfl
theorem u234_20 {S : Option (Nat × (Nat → Int32))} {H : jm_H} {Q : Option Value → jm_H → Prop} {r0 : Nat} {x1 x2 x3 : Int32} (h0 : jm_tg H r0 = 13) : jm_w S 4 234 20 [.ref r0, .int x1, .int x2, .int x3, .null, .null, .null, .null, .null, .null] [] H Q = jm_w S 4 234 101 [.ref r0, .int x1, .int x2, .int x3, .long ((Int32.toInt64 (jm_I H r0 48)) <<< (Int32.toInt64 (jm_I H r0 49) &&& 63)), .null, .null, .null, .null, .null] [] H Q := (js1 at234_20 rfl rfl rfl).trans ((jsgI (H := H) at234_21 rv234g_328 (Or.inl rfl) h0 rfl).trans ((js0 at234_24 rfl rfl rfl).trans ((js1 at234_25 rfl rfl rfl).trans ((jsgI (H := H) at234_26 rv234g_331 (Or.inl rfl) h0 rfl).trans ((js0 at234_29 rfl rfl rfl).trans ((js1 at234_30 rfl rfl rfl).trans (js2 at234_32 rfl rfl)))))))
theorem at234_35 : jm_at 234 35 = some (.lconst 1) := rfl
theorem at234_36 : jm_at 234 36 = some (.aload_n 0) := rfl
theorem at234_37 : jm_at 234 37 = some (.getfield 331) := rfl
theorem at234_40 : jm_at 234 40 = some (.ineg) := rfl
theorem at234_41 : jm_at 234 41 = some (.lshl) := rfl
theorem at234_42 : jm_at 234 42 = some (.lstore 6) := rfl
theorem at234_44 : jm_at 234 44 = some (.aload_n 0) := rfl
theorem at234_45 : jm_at 234 45 = some (.getfield 328) := rfl
theorem at234_48 : jm_at 234 48 = some (.i2l) := rfl
theorem at234_49 : jm_at 234 49 = some (.lload 6) := rfl
theorem at234_51 : jm_at 234 51 = some (.ldiv) := rfl
theorem at234_52 : jm_at 234 52 = some (.lstore 4) := rfl
theorem at234_54 : jm_at 234 54 = some (.ldc2_w 406) := rfl
theorem rv234l_406 : jm_rv 234 (.ldc2_w 406) = (9, 0, 0, 2) := rfl
theorem at234_57 : jm_at 234 57 = some (.aload_n 0) := rfl
theorem at234_58 : jm_at 234 58 = some (.getfield 328) := rfl
theorem at234_61 : jm_at 234 61 = some (.i2l) := rfl
theorem at234_62 : jm_at 234 62 = some (.lload 6) := rfl
theorem at234_64 : jm_at 234 64 = some (.lrem) := rfl
theorem at234_65 : jm_at 234 65 = some (.lmul) := rfl
theorem at234_66 : jm_at 234 66 = some (.lstore 8) := rfl
theorem at234_68 : jm_at 234 68 = some (.lload 8) := rfl
theorem at234_70 : jm_at 234 70 = some (.lload 6) := rfl
theorem at234_72 : jm_at 234 72 = some (.lcmp) := rfl
theorem at234_73 : jm_at 234 73 = some (.ifCond .gt 22) := rfl
theorem u234_35 {S : Option (Nat × (Nat → Int32))} {H : jm_H} {Q : Option Value → jm_H → Prop} {r0 : Nat} {x1 x2 x3 : Int32} (h0 : jm_tg H r0 = 13) (h1 : ¬ ((1 : Int64) <<< (Int32.toInt64 (-(jm_I H r0 49)) &&& 63)) = 0) : jm_w S 4 234 35 [.ref r0, .int x1, .int x2, .int x3, .null, .null, .null, .null, .null, .null] [] H Q = if 0 < (lg_cmp ((2 : Int64) * ((Int32.toInt64 (jm_I H r0 48)) - (Int32.toInt64 (jm_I H r0 48)) / ((1 : Int64) <<< (Int32.toInt64 (-(jm_I H r0 49)) &&& 63)) * ((1 : Int64) <<< (Int32.toInt64 (-(jm_I H r0 49)) &&& 63)))) ((1 : Int64) <<< (Int32.toInt64 (-(jm_I H r0 49)) &&& 63))) then jm_w S 4 234 95 [.ref r0, .int x1, .int x2, .int x3, .long ((Int32.toInt64 (jm_I H r0 48)) / ((1 : Int64) <<< (Int32.toInt64 (-(jm_I H r0 49)) &&& 63))), .null, .long ((1 : Int64) <<< (Int32.toInt64 (-(jm_I H r0 49)) &&& 63)), .null, .long ((2 : Int64) * ((Int32.toInt64 (jm_I H r0 48)) - (Int32.toInt64 (jm_I H r0 48)) / ((1 : Int64) <<< (Int32.toInt64 (-(jm_I H r0 49)) &&& 63)) * ((1 : Int64) <<< (Int32.toInt64 (-(jm_I H r0 49)) &&& 63)))), .null] [] H Q else jm_w S 4 234 76 [.ref r0, .int x1, .int x2, .int x3, .long ((Int32.toInt64 (jm_I H r0 48)) / ((1 : Int64) <<< (Int32.toInt64 (-(jm_I H r0 49)) &&& 63))), .null, .long ((1 : Int64) <<< (Int32.toInt64 (-(jm_I H r0 49)) &&& 63)), .null, .long ((2 : Int64) * ((Int32.toInt64 (jm_I H r0 48)) - (Int32.toInt64 (jm_I H r0 48)) / ((1 : Int64) <<< (Int32.toInt64 (-(jm_I H r0 49)) &&& 63)) * ((1 : Int64) <<< (Int32.toInt64 (-(jm_I H r0 49)) &&& 63)))), .null] [] H Q := (jscl at234_35 rfl rfl).trans ((js1 at234_36 rfl rfl rfl).trans ((jsgI (H := H) at234_37 rv234g_331 (Or.inl rfl) h0 rfl).trans ((js0 at234_40 rfl rfl rfl).trans ((js0 at234_41 rfl rfl rfl).trans ((js1 at234_42 rfl rfl rfl).trans ((js1 at234_44 rfl rfl rfl).trans ((jsgI (H := H) at234_45 rv234g_328 (Or.inl rfl) h0 rfl).trans ((js0 at234_48 rfl rfl rfl).trans ((js1 at234_49 rfl rfl rfl).trans ((jsldiv at234_51 h1 rfl).trans ((js1 at234_52 rfl rfl rfl).trans ((jsk2 at234_54 rv234l_406 rfl rfl).trans ((js1 at234_57 rfl rfl rfl).trans ((jsgI (H := H) at234_58 rv234g_328 (Or.inl rfl) h0 rfl).trans ((js0 at234_61 rfl rfl rfl).trans ((js1 at234_62 rfl rfl rfl).trans ((jslrem at234_64 h1 rfl).trans ((js0 at234_65 rfl rfl rfl).trans ((js1 at234_66 rfl rfl rfl).trans ((js1 at234_68 rfl rfl rfl).trans ((js1 at234_70 rfl rfl rfl).trans ((js0 at234_72 rfl rfl rfl).trans (jsif (P := 0 < (lg_cmp ((2 : Int64) * ((Int32.toInt64 (jm_I H r0 48)) - (Int32.toInt64 (jm_I H r0 48)) / ((1 : Int64) <<< (Int32.toInt64 (-(jm_I H r0 49)) &&& 63)) * ((1 : Int64) <<< (Int32.toInt64 (-(jm_I H r0 49)) &&& 63)))) ((1 : Int64) <<< (Int32.toInt64 (-(jm_I H r0 49)) &&& 63)))) at234_73 rfl rfl)))))))))))))))))))))))
theorem at234_76 : jm_at 234 76 = some (.lload 8) := rfl
theorem at234_78 : jm_at 234 78 = some (.lload 6) := rfl
theorem at234_80 : jm_at 234 80 = some (.lcmp) := rfl
theorem at234_81 : jm_at 234 81 = some (.ifCond .ne 20) := rfl
theorem u234_76 {S : Option (Nat × (Nat → Int32))} {H : jm_H} {Q : Option Value → jm_H → Prop} {r0 : Nat} {x1 x2 x3 : Int32} {y4 y6 y8 : Int64} : jm_w S 4 234 76 [.ref r0, .int x1, .int x2, .int x3, .long y4, .null, .long y6, .null, .long y8, .null] [] H Q = if ¬ (lg_cmp y8 y6) = 0 then jm_w S 4 234 101 [.ref r0, .int x1, .int x2, .int x3, .long y4, .null, .long y6, .null, .long y8, .null] [] H Q else jm_w S 4 234 84 [.ref r0, .int x1, .int x2, .int x3, .long y4, .null, .long y6, .null, .long y8, .null] [] H Q := (js1 at234_76 rfl rfl rfl).trans ((js1 at234_78 rfl rfl rfl).trans ((js0 at234_80 rfl rfl rfl).trans (jsif (P := ¬ (lg_cmp y8 y6) = 0) at234_81 rfl rfl)))
theorem at234_84 : jm_at 234 84 = some (.lload 4) := rfl
theorem at234_86 : jm_at 234 86 = some (.ldc2_w 406) := rfl
theorem at234_89 : jm_at 234 89 = some (.lrem) := rfl
theorem at234_90 : jm_at 234 90 = some (.lconst 1) := rfl
theorem at234_91 : jm_at 234 91 = some (.lcmp) := rfl
theorem at234_92 : jm_at 234 92 = some (.ifCond .ne 9) := rfl
theorem u234_84 {S : Option (Nat × (Nat → Int32))} {H : jm_H} {Q : Option Value → jm_H → Prop} {r0 : Nat} {x1 x2 x3 : Int32} {y4 y6 y8 : Int64} : jm_w S 4 234 84 [.ref r0, .int x1, .int x2, .int x3, .long y4, .null, .long y6, .null, .long y8, .null] [] H Q = if ¬ (lg_cmp (y4 - y4 / (2 : Int64) * (2 : Int64)) (1 : Int64)) = 0 then jm_w S 4 234 101 [.ref r0, .int x1, .int x2, .int x3, .long y4, .null, .long y6, .null, .long y8, .null] [] H Q else jm_w S 4 234 95 [.ref r0, .int x1, .int x2, .int x3, .long y4, .null, .long y6, .null, .long y8, .null] [] H Q := (js1 at234_84 rfl rfl rfl).trans ((jsk2 at234_86 rv234l_406 rfl rfl).trans ((jslrem at234_89 (by decide) rfl).trans ((jscl at234_90 rfl rfl).trans ((js0 at234_91 rfl rfl rfl).trans (jsif (P := ¬ (lg_cmp (y4 - y4 / (2 : Int64) * (2 : Int64)) (1 : Int64)) = 0) at234_92 rfl rfl)))))
theorem at234_95 : jm_at 234 95 = some (.lload 4) := rfl
theorem at234_97 : jm_at 234 97 = some (.lconst 1) := rfl
theorem at234_98 : jm_at 234 98 = some (.ladd) := rfl
theorem at234_99 : jm_at 234 99 = some (.lstore 4) := rfl
theorem u234_95 {S : Option (Nat × (Nat → Int32))} {H : jm_H} {Q : Option Value → jm_H → Prop} {r0 : Nat} {x1 x2 x3 : Int32} {y4 y6 y8 : Int64} : jm_w S 4 234 95 [.ref r0, .int x1, .int x2, .int x3, .long y4, .null, .long y6, .null, .long y8, .null] [] H Q = jm_w S 4 234 101 [.ref r0, .int x1, .int x2, .int x3, .long (y4 + (1 : Int64)), .null, .long y6, .null, .long y8, .null] [] H Q := (js1 at234_95 rfl rfl rfl).trans ((jscl at234_97 rfl rfl).trans ((js0 at234_98 rfl rfl rfl).trans (js1 at234_99 rfl rfl rfl)))
theorem at234_101 : jm_at 234 101 = some (.lload 4) := rfl
theorem at234_103 : jm_at 234 103 = some (.ldc2_w 408) := rfl
theorem rv234l_408 : jm_rv 234 (.ldc2_w 408) = (9, 0, 0, 2000000000) := rfl
theorem at234_106 : jm_at 234 106 = some (.lcmp) := rfl
theorem at234_107 : jm_at 234 107 = some (.ifCond .le 9) := rfl
theorem u234_101 {S : Option (Nat × (Nat → Int32))} {H : jm_H} {Q : Option Value → jm_H → Prop} {r0 : Nat} {x1 x2 x3 : Int32} {y4 : Int64} {w6 w8 : Value} : jm_w S 4 234 101 [.ref r0, .int x1, .int x2, .int x3, .long y4, .null, w6, .null, w8, .null] [] H Q = if (lg_cmp y4 (2000000000 : Int64)) ≤ 0 then jm_w S 4 234 116 [.ref r0, .int x1, .int x2, .int x3, .long y4, .null, w6, .null, w8, .null] [] H Q else jm_w S 4 234 110 [.ref r0, .int x1, .int x2, .int x3, .long y4, .null, w6, .null, w8, .null] [] H Q := (js1 at234_101 rfl rfl rfl).trans ((jsk2 at234_103 rv234l_408 rfl rfl).trans ((js0 at234_106 rfl rfl rfl).trans (jsif (P := (lg_cmp y4 (2000000000 : Int64)) ≤ 0) at234_107 rfl rfl)))
theorem at234_110 : jm_at 234 110 = some (.ldc2_w 408) := rfl
theorem at234_113 : jm_at 234 113 = some (.goto 5) := rfl
theorem u234_110 {S : Option (Nat × (Nat → Int32))} {H : jm_H} {Q : Option Value → jm_H → Prop} {r0 : Nat} {x1 x2 x3 : Int32} {y4 : Int64} {w6 w8 : Value} : jm_w S 4 234 110 [.ref r0, .int x1, .int x2, .int x3, .long y4, .null, w6, .null, w8, .null] [] H Q = jm_w S 4 234 118 [.ref r0, .int x1, .int x2, .int x3, .long y4, .null, w6, .null, w8, .null] [.long (2000000000 : Int64)] H Q := (jsk2 at234_110 rv234l_408 rfl rfl).trans (js2 at234_113 rfl rfl)
theorem at234_116 : jm_at 234 116 = some (.lload 4) := rfl
theorem u234_116 {S : Option (Nat × (Nat → Int32))} {H : jm_H} {Q : Option Value → jm_H → Prop} {r0 : Nat} {x1 x2 x3 : Int32} {y4 : Int64} {w6 w8 : Value} : jm_w S 4 234 116 [.ref r0, .int x1, .int x2, .int x3, .long y4, .null, w6, .null, w8, .null] [] H Q = jm_w S 4 234 118 [.ref r0, .int x1, .int x2, .int x3, .long y4, .null, w6, .null, w8, .null] [.long y4] H Q := js1 at234_116 rfl rfl rfl
theorem at234_118 : jm_at 234 118 = some (.lstore 4) := rfl
theorem at234_120 : jm_at 234 120 = some (.iload_n 1) := rfl
theorem at234_121 : jm_at 234 121 = some (.iload_n 3) := rfl
theorem at234_122 : jm_at 234 122 = some (.invokestatic 348) := rfl
theorem rv234i_348 : jm_rv 234 (.invokestatic 348) = (1, 206, 0, 0) := rfl
theorem u234_118 {S : Option (Nat × (Nat → Int32))} {H : jm_H} {Q : Option Value → jm_H → Prop} {r0 : Nat} {x1 x2 x3 : Int32} {y4 q0 : Int64} {w6 w8 : Value} : jm_w S 4 234 118 [.ref r0, .int x1, .int x2, .int x3, .long y4, .null, w6, .null, w8, .null] [.long q0] H Q = jm_c S 206 [.int x1, .int x3] H (fun v G => jm_w S 4 234 125 [.ref r0, .int x1, .int x2, .int x3, .long q0, .null, w6, .null, w8, .null] (v.toList ++ []) G Q) := (js1 at234_118 rfl rfl rfl).trans ((js1 at234_120 rfl rfl rfl).trans ((js1 at234_121 rfl rfl rfl).trans (jscall (H := H) (as := [.int x1, .int x3]) (q := []) at234_122 rfl rv234i_348 (jscut rfl rfl rfl (Nat.le_of_ble_eq_true rfl)) rfl (Nat.le_of_ble_eq_true rfl) rfl rfl)))
theorem at234_125 : jm_at 234 125 = some (.i2l) := rfl
theorem at234_126 : jm_at 234 126 = some (.lload 4) := rfl
theorem at234_128 : jm_at 234 128 = some (.lmul) := rfl
theorem at234_129 : jm_at 234 129 = some (.l2i) := rfl
theorem at234_130 : jm_at 234 130 = some (.ireturn) := rfl
theorem u234_125 {S : Option (Nat × (Nat → Int32))} {H : jm_H} {Q : Option Value → jm_H → Prop} {r0 : Nat} {x1 x2 x3 p0 : Int32} {y4 : Int64} {w6 w8 : Value} : jm_w S 4 234 125 [.ref r0, .int x1, .int x2, .int x3, .long y4, .null, w6, .null, w8, .null] [.int p0] H Q = Q (some (.int (Int64.toInt32 ((Int32.toInt64 p0) * y4)))) H := (js0 at234_125 rfl rfl rfl).trans ((js1 at234_126 rfl rfl rfl).trans ((js0 at234_128 rfl rfl rfl).trans ((js0 at234_129 rfl rfl rfl).trans (jsret_i at234_130 rfl))))
theorem en234 {S : Option (Nat × (Nat → Int32))} {H : jm_H} {Q : Option Value → jm_H → Prop} {r0 : Nat} {x1 x2 x3 : Int32} : jm_c S 234 [.ref r0, .int x1, .int x2, .int x3] H Q = jm_w S 4 234 0 [.ref r0, .int x1, .int x2, .int x3, .null, .null, .null, .null, .null, .null] [] H Q := rfl
theorem at235_0 : jm_at 235 0 = some (.aload_n 0) := rfl
theorem at235_1 : jm_at 235 1 = some (.getfield 328) := rfl
theorem rv235g_328 : jm_rv 235 (.getfield 328) = (0, 12, 48, 0) := rfl
theorem at235_4 : jm_at 235 4 = some (.iconst 2) := rfl
theorem at235_5 : jm_at 235 5 = some (.irem) := rfl
theorem at235_6 : jm_at 235 6 = some (.ifCond .ne 26) := rfl
theorem u235_0 {S : Option (Nat × (Nat → Int32))} {H : jm_H} {Q : Option Value → jm_H → Prop} {r0 : Nat} (h0 : jm_tg H r0 = 13) : jm_w S 1 235 0 [.ref r0] [] H Q = if ¬ ((jm_I H r0 48) - (jm_I H r0 48) / (2 : Int32) * (2 : Int32)) = 0 then jm_w S 1 235 32 [.ref r0] [] H Q else jm_w S 1 235 9 [.ref r0] [] H Q := (js1 at235_0 rfl rfl rfl).trans ((jsgI (H := H) at235_1 rv235g_328 (Or.inl rfl) h0 rfl).trans ((jsci at235_4 rfl rfl).trans ((jsirem at235_5 (by decide) rfl).trans (jsif (P := ¬ ((jm_I H r0 48) - (jm_I H r0 48) / (2 : Int32) * (2 : Int32)) = 0) at235_6 rfl rfl))))
theorem at235_9 : jm_at 235 9 = some (.aload_n 0) := rfl
theorem at235_10 : jm_at 235 10 = some (.dup) := rfl
theorem at235_11 : jm_at 235 11 = some (.getfield 328) := rfl
theorem at235_14 : jm_at 235 14 = some (.iconst 2) := rfl
theorem at235_15 : jm_at 235 15 = some (.idiv) := rfl
theorem at235_16 : jm_at 235 16 = some (.putfield 328) := rfl
theorem rv235p_328 : jm_rv 235 (.putfield 328) = (0, 12, 48, 0) := rfl
theorem at235_19 : jm_at 235 19 = some (.aload_n 0) := rfl
theorem at235_20 : jm_at 235 20 = some (.dup) := rfl
theorem at235_21 : jm_at 235 21 = some (.getfield 331) := rfl
theorem rv235g_331 : jm_rv 235 (.getfield 331) = (0, 12, 49, 0) := rfl
theorem at235_24 : jm_at 235 24 = some (.iconst 1) := rfl
theorem at235_25 : jm_at 235 25 = some (.iadd) := rfl
theorem at235_26 : jm_at 235 26 = some (.putfield 331) := rfl
theorem rv235p_331 : jm_rv 235 (.putfield 331) = (0, 12, 49, 0) := rfl
theorem at235_29 : jm_at 235 29 = some (.goto (-29)) := rfl
theorem u235_9 {S : Option (Nat × (Nat → Int32))} {H : jm_H} {Q : Option Value → jm_H → Prop} {r0 : Nat} (h0 : jm_tg H r0 = 13) : jm_w S 1 235 9 [.ref r0] [] H Q = jm_w S 1 235 0 [.ref r0] [] (jm_pI (jm_pI H r0 48 ((jm_I H r0 48) / (2 : Int32))) r0 49 ((jm_I (jm_pI H r0 48 ((jm_I H r0 48) / (2 : Int32))) r0 49) + (1 : Int32))) Q := (js1 at235_9 rfl rfl rfl).trans ((js0 at235_10 rfl rfl rfl).trans ((jsgI (H := H) at235_11 rv235g_328 (Or.inl rfl) h0 rfl).trans ((jsci at235_14 rfl rfl).trans ((jsidiv at235_15 (by decide) rfl).trans ((jspI (H := H) at235_16 rv235p_328 rfl h0 rfl).trans ((js1 at235_19 rfl rfl rfl).trans ((js0 at235_20 rfl rfl rfl).trans ((jsgI (H := (jm_pI H r0 48 ((jm_I H r0 48) / (2 : Int32)))) at235_21 rv235g_331 (Or.inl rfl) h0 rfl).trans ((jsci at235_24 rfl rfl).trans ((js0 at235_25 rfl rfl rfl).trans ((jspI (H := (jm_pI H r0 48 ((jm_I H r0 48) / (2 : Int32)))) at235_26 rv235p_331 rfl h0 rfl).trans (js2 at235_29 rfl rfl))))))))))))
theorem at235_32 : jm_at 235 32 = some (.return_) := rfl
theorem u235_32 {S : Option (Nat × (Nat → Int32))} {H : jm_H} {Q : Option Value → jm_H → Prop} {r0 : Nat} : jm_w S 1 235 32 [.ref r0] [] H Q = Q none H := jsret_v at235_32 rfl
theorem en235 {S : Option (Nat × (Nat → Int32))} {H : jm_H} {Q : Option Value → jm_H → Prop} {r0 : Nat} : jm_c S 235 [.ref r0] H Q = jm_w S 1 235 0 [.ref r0] [] H Q := rfl
theorem at236_0 : jm_at 236 0 = some (.iload_n 1) := rfl
theorem u236_0 {S : Option (Nat × (Nat → Int32))} {H : jm_H} {Q : Option Value → jm_H → Prop} {r0 : Nat} {x1 : Int32} : jm_w S 1 236 0 [.ref r0, .int x1] [] H Q = jm_w S 1 236 1 [.ref r0, .int x1] [.int x1] H Q := js1 at236_0 rfl rfl rfl
theorem at236_1 : jm_at 236 1 = some (.tableswitch 69 1 6 #[39, 44, 49, 54, 59, 64]) := rfl
theorem u236_1_1 {S : Option (Nat × (Nat → Int32))} {H : jm_H} {Q : Option Value → jm_H → Prop} {r0 : Nat} {x1 : Int32} : jm_w S 1 236 1 [.ref r0, .int x1] [.int 1] H Q = jm_w S 1 236 40 [.ref r0, .int x1] [] H Q := js2 at236_1 rfl rfl
theorem u236_1_2 {S : Option (Nat × (Nat → Int32))} {H : jm_H} {Q : Option Value → jm_H → Prop} {r0 : Nat} {x1 : Int32} : jm_w S 1 236 1 [.ref r0, .int x1] [.int 2] H Q = jm_w S 1 236 45 [.ref r0, .int x1] [] H Q := js2 at236_1 rfl rfl
theorem u236_1_3 {S : Option (Nat × (Nat → Int32))} {H : jm_H} {Q : Option Value → jm_H → Prop} {r0 : Nat} {x1 : Int32} : jm_w S 1 236 1 [.ref r0, .int x1] [.int 3] H Q = jm_w S 1 236 50 [.ref r0, .int x1] [] H Q := js2 at236_1 rfl rfl
theorem u236_1_4 {S : Option (Nat × (Nat → Int32))} {H : jm_H} {Q : Option Value → jm_H → Prop} {r0 : Nat} {x1 : Int32} : jm_w S 1 236 1 [.ref r0, .int x1] [.int 4] H Q = jm_w S 1 236 55 [.ref r0, .int x1] [] H Q := js2 at236_1 rfl rfl
theorem u236_1_5 {S : Option (Nat × (Nat → Int32))} {H : jm_H} {Q : Option Value → jm_H → Prop} {r0 : Nat} {x1 : Int32} : jm_w S 1 236 1 [.ref r0, .int x1] [.int 5] H Q = jm_w S 1 236 60 [.ref r0, .int x1] [] H Q := js2 at236_1 rfl rfl
theorem u236_1_6 {S : Option (Nat × (Nat → Int32))} {H : jm_H} {Q : Option Value → jm_H → Prop} {r0 : Nat} {x1 : Int32} : jm_w S 1 236 1 [.ref r0, .int x1] [.int 6] H Q = jm_w S 1 236 65 [.ref r0, .int x1] [] H Q := js2 at236_1 rfl rfl
theorem u236_1_d {S : Option (Nat × (Nat → Int32))} {H : jm_H} {Q : Option Value → jm_H → Prop} {r0 : Nat} {x1 p0 : Int32} (h : Int32.toInt p0 < 1 ∨ 6 < Int32.toInt p0) : jm_w S 1 236 1 [.ref r0, .int x1] [.int p0] H Q = jm_w S 1 236 70 [.ref r0, .int x1] [] H Q := js2 at236_1 rfl ((if_pos h).trans rfl)
theorem at236_40 : jm_at 236 40 = some (.aload_n 0) := rfl
theorem at236_41 : jm_at 236 41 = some (.getfield 313) := rfl
theorem rv236g_313 : jm_rv 236 (.getfield 313) = (0, 12, 43, 0) := rfl
theorem at236_44 : jm_at 236 44 = some (.ireturn) := rfl
theorem u236_40 {S : Option (Nat × (Nat → Int32))} {H : jm_H} {Q : Option Value → jm_H → Prop} {r0 : Nat} {x1 : Int32} (h0 : jm_tg H r0 = 13) : jm_w S 1 236 40 [.ref r0, .int x1] [] H Q = Q (some (.int (jm_I H r0 43))) H := (js1 at236_40 rfl rfl rfl).trans ((jsgI (H := H) at236_41 rv236g_313 (Or.inl rfl) h0 rfl).trans (jsret_i at236_44 rfl))
theorem at236_45 : jm_at 236 45 = some (.aload_n 0) := rfl
theorem at236_46 : jm_at 236 46 = some (.getfield 316) := rfl
theorem rv236g_316 : jm_rv 236 (.getfield 316) = (0, 12, 44, 0) := rfl
theorem at236_49 : jm_at 236 49 = some (.ireturn) := rfl
theorem u236_45 {S : Option (Nat × (Nat → Int32))} {H : jm_H} {Q : Option Value → jm_H → Prop} {r0 : Nat} {x1 : Int32} (h0 : jm_tg H r0 = 13) : jm_w S 1 236 45 [.ref r0, .int x1] [] H Q = Q (some (.int (jm_I H r0 44))) H := (js1 at236_45 rfl rfl rfl).trans ((jsgI (H := H) at236_46 rv236g_316 (Or.inl rfl) h0 rfl).trans (jsret_i at236_49 rfl))
theorem at236_50 : jm_at 236 50 = some (.aload_n 0) := rfl
theorem at236_51 : jm_at 236 51 = some (.getfield 322) := rfl
theorem rv236g_322 : jm_rv 236 (.getfield 322) = (0, 12, 45, 0) := rfl
theorem at236_54 : jm_at 236 54 = some (.ireturn) := rfl
theorem u236_50 {S : Option (Nat × (Nat → Int32))} {H : jm_H} {Q : Option Value → jm_H → Prop} {r0 : Nat} {x1 : Int32} (h0 : jm_tg H r0 = 13) : jm_w S 1 236 50 [.ref r0, .int x1] [] H Q = Q (some (.int (jm_I H r0 45))) H := (js1 at236_50 rfl rfl rfl).trans ((jsgI (H := H) at236_51 rv236g_322 (Or.inl rfl) h0 rfl).trans (jsret_i at236_54 rfl))
theorem at236_55 : jm_at 236 55 = some (.aload_n 0) := rfl
theorem at236_56 : jm_at 236 56 = some (.getfield 319) := rfl
theorem rv236g_319 : jm_rv 236 (.getfield 319) = (0, 12, 46, 0) := rfl
theorem at236_59 : jm_at 236 59 = some (.ireturn) := rfl
theorem u236_55 {S : Option (Nat × (Nat → Int32))} {H : jm_H} {Q : Option Value → jm_H → Prop} {r0 : Nat} {x1 : Int32} (h0 : jm_tg H r0 = 13) : jm_w S 1 236 55 [.ref r0, .int x1] [] H Q = Q (some (.int (jm_I H r0 46))) H := (js1 at236_55 rfl rfl rfl).trans ((jsgI (H := H) at236_56 rv236g_319 (Or.inl rfl) h0 rfl).trans (jsret_i at236_59 rfl))
theorem at236_60 : jm_at 236 60 = some (.aload_n 0) := rfl
theorem at236_61 : jm_at 236 61 = some (.getfield 325) := rfl
theorem rv236g_325 : jm_rv 236 (.getfield 325) = (0, 12, 47, 0) := rfl
theorem at236_64 : jm_at 236 64 = some (.ireturn) := rfl
theorem u236_60 {S : Option (Nat × (Nat → Int32))} {H : jm_H} {Q : Option Value → jm_H → Prop} {r0 : Nat} {x1 : Int32} (h0 : jm_tg H r0 = 13) : jm_w S 1 236 60 [.ref r0, .int x1] [] H Q = Q (some (.int (jm_I H r0 47))) H := (js1 at236_60 rfl rfl rfl).trans ((jsgI (H := H) at236_61 rv236g_325 (Or.inl rfl) h0 rfl).trans (jsret_i at236_64 rfl))
theorem at236_65 : jm_at 236 65 = some (.aload_n 0) := rfl
theorem at236_66 : jm_at 236 66 = some (.getfield 328) := rfl
theorem rv236g_328 : jm_rv 236 (.getfield 328) = (0, 12, 48, 0) := rfl
theorem at236_69 : jm_at 236 69 = some (.ireturn) := rfl
theorem u236_65 {S : Option (Nat × (Nat → Int32))} {H : jm_H} {Q : Option Value → jm_H → Prop} {r0 : Nat} {x1 : Int32} (h0 : jm_tg H r0 = 13) : jm_w S 1 236 65 [.ref r0, .int x1] [] H Q = Q (some (.int (jm_I H r0 48))) H := (js1 at236_65 rfl rfl rfl).trans ((jsgI (H := H) at236_66 rv236g_328 (Or.inl rfl) h0 rfl).trans (jsret_i at236_69 rfl))
theorem at236_70 : jm_at 236 70 = some (.aload_n 0) := rfl
theorem at236_71 : jm_at 236 71 = some (.getfield 331) := rfl
theorem rv236g_331 : jm_rv 236 (.getfield 331) = (0, 12, 49, 0) := rfl
theorem at236_74 : jm_at 236 74 = some (.ireturn) := rfl
theorem u236_70 {S : Option (Nat × (Nat → Int32))} {H : jm_H} {Q : Option Value → jm_H → Prop} {r0 : Nat} {x1 : Int32} (h0 : jm_tg H r0 = 13) : jm_w S 1 236 70 [.ref r0, .int x1] [] H Q = Q (some (.int (jm_I H r0 49))) H := (js1 at236_70 rfl rfl rfl).trans ((jsgI (H := H) at236_71 rv236g_331 (Or.inl rfl) h0 rfl).trans (jsret_i at236_74 rfl))
theorem en236 {S : Option (Nat × (Nat → Int32))} {H : jm_H} {Q : Option Value → jm_H → Prop} {r0 : Nat} {x1 : Int32} : jm_c S 236 [.ref r0, .int x1] H Q = jm_w S 1 236 0 [.ref r0, .int x1] [] H Q := rfl
theorem at237_0 : jm_at 237 0 = some (.iload_n 1) := rfl
theorem at237_1 : jm_at 237 1 = some (.iload_n 2) := rfl
theorem at237_2 : jm_at 237 2 = some (.iload_n 3) := rfl
theorem at237_3 : jm_at 237 3 = some (.invokestatic 302) := rfl
theorem rv237i_302 : jm_rv 237 (.invokestatic 302) = (1, 220, 0, 0) := rfl
theorem u237_0 {S : Option (Nat × (Nat → Int32))} {H : jm_H} {Q : Option Value → jm_H → Prop} {r0 : Nat} {x1 x2 x3 x4 : Int32} : jm_w S 5 237 0 [.ref r0, .int x1, .int x2, .int x3, .int x4] [] H Q = jm_c S 220 [.int x1, .int x2, .int x3] H (fun v G => jm_w S 5 237 6 [.ref r0, .int x1, .int x2, .int x3, .int x4] (v.toList ++ []) G Q) := (js1 at237_0 rfl rfl rfl).trans ((js1 at237_1 rfl rfl rfl).trans ((js1 at237_2 rfl rfl rfl).trans (jscall (H := H) (as := [.int x1, .int x2, .int x3]) (q := []) at237_3 rfl rv237i_302 (jscut rfl rfl rfl (Nat.le_of_ble_eq_true rfl)) rfl (Nat.le_of_ble_eq_true rfl) rfl rfl)))
theorem at237_6 : jm_at 237 6 = some (.ifCond .ne 5) := rfl
theorem u237_6 {S : Option (Nat × (Nat → Int32))} {H : jm_H} {Q : Option Value → jm_H → Prop} {r0 : Nat} {x1 x2 x3 x4 p0 : Int32} : jm_w S 5 237 6 [.ref r0, .int x1, .int x2, .int x3, .int x4] [.int p0] H Q = if ¬ p0 = 0 then jm_w S 5 237 11 [.ref r0, .int x1, .int x2, .int x3, .int x4] [] H Q else jm_w S 5 237 9 [.ref r0, .int x1, .int x2, .int x3, .int x4] [] H Q := jsif (P := ¬ p0 = 0) at237_6 rfl rfl
theorem at237_9 : jm_at 237 9 = some (.iconst (-1)) := rfl
theorem at237_10 : jm_at 237 10 = some (.ireturn) := rfl
theorem u237_9 {S : Option (Nat × (Nat → Int32))} {H : jm_H} {Q : Option Value → jm_H → Prop} {r0 : Nat} {x1 x2 x3 x4 : Int32} : jm_w S 5 237 9 [.ref r0, .int x1, .int x2, .int x3, .int x4] [] H Q = Q (some (.int (-1 : Int32))) H := (jsci at237_9 rfl rfl).trans (jsret_i at237_10 rfl)
theorem at237_11 : jm_at 237 11 = some (.aload_n 0) := rfl
theorem at237_12 : jm_at 237 12 = some (.iload_n 1) := rfl
theorem at237_13 : jm_at 237 13 = some (.iload_n 2) := rfl
theorem at237_14 : jm_at 237 14 = some (.iload_n 3) := rfl
theorem at237_15 : jm_at 237 15 = some (.invokevirtual 434) := rfl
theorem rv237i_434 : jm_rv 237 (.invokevirtual 434) = (2, 238, 0, 0) := rfl
theorem u237_11 {S : Option (Nat × (Nat → Int32))} {H : jm_H} {Q : Option Value → jm_H → Prop} {r0 : Nat} {x1 x2 x3 x4 : Int32} (h0 : jm_tg H r0 = 13) : jm_w S 5 237 11 [.ref r0, .int x1, .int x2, .int x3, .int x4] [] H Q = jm_c S 238 [.ref r0, .int x1, .int x2, .int x3] H (fun v G => jm_w S 5 237 18 [.ref r0, .int x1, .int x2, .int x3, .int x4] (v.toList ++ []) G Q) := (js1 at237_11 rfl rfl rfl).trans ((js1 at237_12 rfl rfl rfl).trans ((js1 at237_13 rfl rfl rfl).trans ((js1 at237_14 rfl rfl rfl).trans (jscall (H := H) (as := [.ref r0, .int x1, .int x2, .int x3]) (q := []) at237_15 rfl rv237i_434 (jscutV rfl rfl rfl (Nat.le_of_ble_eq_true rfl) rfl h0) rfl (Nat.le_of_ble_eq_true rfl) rfl rfl))))
theorem at237_18 : jm_at 237 18 = some (.iload 4) := rfl
theorem at237_20 : jm_at 237 20 = some (.iconst (-1)) := rfl
theorem at237_21 : jm_at 237 21 = some (.if_icmp .ne 10) := rfl
theorem u237_18 {S : Option (Nat × (Nat → Int32))} {H : jm_H} {Q : Option Value → jm_H → Prop} {r0 : Nat} {x1 x2 x3 x4 : Int32} : jm_w S 5 237 18 [.ref r0, .int x1, .int x2, .int x3, .int x4] [] H Q = if ¬ x4 = (-1 : Int32) then jm_w S 5 237 31 [.ref r0, .int x1, .int x2, .int x3, .int x4] [] H Q else jm_w S 5 237 24 [.ref r0, .int x1, .int x2, .int x3, .int x4] [] H Q := (js1 at237_18 rfl rfl rfl).trans ((jsci at237_20 rfl rfl).trans (jsif (P := ¬ x4 = (-1 : Int32)) at237_21 rfl rfl))
theorem at237_24 : jm_at 237 24 = some (.aload_n 0) := rfl
theorem at237_25 : jm_at 237 25 = some (.getfield 420) := rfl
theorem rv237g_420 : jm_rv 237 (.getfield 420) = (0, 12, 60, 0) := rfl
theorem at237_28 : jm_at 237 28 = some (.goto 29) := rfl
theorem u237_24 {S : Option (Nat × (Nat → Int32))} {H : jm_H} {Q : Option Value → jm_H → Prop} {r0 : Nat} {x1 x2 x3 x4 : Int32} (h0 : jm_tg H r0 = 13) : jm_w S 5 237 24 [.ref r0, .int x1, .int x2, .int x3, .int x4] [] H Q = jm_w S 5 237 57 [.ref r0, .int x1, .int x2, .int x3, .int x4] [.int (jm_I H r0 60)] H Q := (js1 at237_24 rfl rfl rfl).trans ((jsgI (H := H) at237_25 rv237g_420 (Or.inl rfl) h0 rfl).trans (js2 at237_28 rfl rfl))
theorem at237_31 : jm_at 237 31 = some (.iload 4) := rfl
theorem at237_33 : jm_at 237 33 = some (.iconst 0) := rfl
theorem at237_34 : jm_at 237 34 = some (.aload_n 0) := rfl
theorem at237_35 : jm_at 237 35 = some (.getfield 420) := rfl
theorem at237_38 : jm_at 237 38 = some (.iconst 1) := rfl
theorem at237_39 : jm_at 237 39 = some (.isub) := rfl
theorem at237_40 : jm_at 237 40 = some (.invokestatic 218) := rfl
theorem rv237i_218 : jm_rv 237 (.invokestatic 218) = (1, 176, 0, 0) := rfl
theorem u237_31 {S : Option (Nat × (Nat → Int32))} {H : jm_H} {Q : Option Value → jm_H → Prop} {r0 : Nat} {x1 x2 x3 x4 : Int32} (h0 : jm_tg H r0 = 13) : jm_w S 5 237 31 [.ref r0, .int x1, .int x2, .int x3, .int x4] [] H Q = jm_c S 176 [.int x4, .int (0 : Int32), .int ((jm_I H r0 60) - (1 : Int32))] H (fun v G => jm_w S 5 237 43 [.ref r0, .int x1, .int x2, .int x3, .int x4] (v.toList ++ []) G Q) := (js1 at237_31 rfl rfl rfl).trans ((jsci at237_33 rfl rfl).trans ((js1 at237_34 rfl rfl rfl).trans ((jsgI (H := H) at237_35 rv237g_420 (Or.inl rfl) h0 rfl).trans ((jsci at237_38 rfl rfl).trans ((js0 at237_39 rfl rfl rfl).trans (jscall (H := H) (as := [.int x4, .int (0 : Int32), .int ((jm_I H r0 60) - (1 : Int32))]) (q := []) at237_40 rfl rv237i_218 (jscut rfl rfl rfl (Nat.le_of_ble_eq_true rfl)) rfl (Nat.le_of_ble_eq_true rfl) rfl rfl))))))
theorem at237_43 : jm_at 237 43 = some (.ifCond .eq 13) := rfl
theorem u237_43 {S : Option (Nat × (Nat → Int32))} {H : jm_H} {Q : Option Value → jm_H → Prop} {r0 : Nat} {x1 x2 x3 x4 p0 : Int32} : jm_w S 5 237 43 [.ref r0, .int x1, .int x2, .int x3, .int x4] [.int p0] H Q = if p0 = 0 then jm_w S 5 237 56 [.ref r0, .int x1, .int x2, .int x3, .int x4] [] H Q else jm_w S 5 237 46 [.ref r0, .int x1, .int x2, .int x3, .int x4] [] H Q := jsif (P := p0 = 0) at237_43 rfl rfl
theorem at237_46 : jm_at 237 46 = some (.aload_n 0) := rfl
theorem at237_47 : jm_at 237 47 = some (.getfield 98) := rfl
theorem rv237g_98 : jm_rv 237 (.getfield 98) = (0, 12, 59, 0) := rfl
theorem at237_50 : jm_at 237 50 = some (.iload 4) := rfl
theorem at237_52 : jm_at 237 52 = some (.iaload) := rfl
theorem at237_53 : jm_at 237 53 = some (.goto 4) := rfl
theorem u237_46 {S : Option (Nat × (Nat → Int32))} {H : jm_H} {Q : Option Value → jm_H → Prop} {r0 : Nat} {x1 x2 x3 x4 : Int32} (h0 : jm_tg H r0 = 13) (h1 : ¬ jm_R H r0 59 = 0) (h2 : ¬ (x4 < 0 ∨ jm_ln H (jm_R H r0 59) ≤ Int32.toNatClampNeg x4)) (h3 : ¬ (jm_R H r0 59) = 1) (h4 : jm_tg H (jm_R H r0 59) = 100) : jm_w S 5 237 46 [.ref r0, .int x1, .int x2, .int x3, .int x4] [] H Q = jm_w S 5 237 57 [.ref r0, .int x1, .int x2, .int x3, .int x4] [.int (jm_I H (jm_R H r0 59) (Int32.toNatClampNeg x4))] H Q := (js1 at237_46 rfl rfl rfl).trans ((jsgR (H := H) at237_47 rv237g_98 rfl h0 h1 rfl).trans ((js1 at237_50 rfl rfl rfl).trans ((jsial (H := H) at237_52 h3 h4 h2 rfl).trans (js2 at237_53 rfl rfl))))
theorem at237_56 : jm_at 237 56 = some (.iconst (-1)) := rfl
theorem u237_56 {S : Option (Nat × (Nat → Int32))} {H : jm_H} {Q : Option Value → jm_H → Prop} {r0 : Nat} {x1 x2 x3 x4 : Int32} : jm_w S 5 237 56 [.ref r0, .int x1, .int x2, .int x3, .int x4] [] H Q = jm_w S 5 237 57 [.ref r0, .int x1, .int x2, .int x3, .int x4] [.int (-1 : Int32)] H Q := jsci at237_56 rfl rfl
theorem at237_57 : jm_at 237 57 = some (.ireturn) := rfl
theorem u237_57 {S : Option (Nat × (Nat → Int32))} {H : jm_H} {Q : Option Value → jm_H → Prop} {r0 : Nat} {x1 x2 x3 x4 p0 : Int32} : jm_w S 5 237 57 [.ref r0, .int x1, .int x2, .int x3, .int x4] [.int p0] H Q = Q (some (.int p0)) H := jsret_i at237_57 rfl
theorem en237 {S : Option (Nat × (Nat → Int32))} {H : jm_H} {Q : Option Value → jm_H → Prop} {r0 : Nat} {x1 x2 x3 x4 : Int32} : jm_c S 237 [.ref r0, .int x1, .int x2, .int x3, .int x4] H Q = jm_w S 5 237 0 [.ref r0, .int x1, .int x2, .int x3, .int x4] [] H Q := rfl
theorem at238_0 : jm_at 238 0 = some (.aload_n 0) := rfl
theorem at238_1 : jm_at 238 1 = some (.iconst 0) := rfl
theorem at238_2 : jm_at 238 2 = some (.putfield 420) := rfl
theorem rv238p_420 : jm_rv 238 (.putfield 420) = (0, 12, 60, 0) := rfl
theorem at238_5 : jm_at 238 5 = some (.iload_n 1) := rfl
theorem at238_6 : jm_at 238 6 = some (.iload_n 3) := rfl
theorem at238_7 : jm_at 238 7 = some (.invokestatic 276) := rfl
theorem rv238i_276 : jm_rv 238 (.invokestatic 276) = (1, 204, 0, 0) := rfl
theorem u238_0 {S : Option (Nat × (Nat → Int32))} {H : jm_H} {Q : Option Value → jm_H → Prop} {r0 : Nat} {x1 x2 x3 : Int32} (h0 : jm_tg H r0 = 13) : jm_w S 4 238 0 [.ref r0, .int x1, .int x2, .int x3, .null, .null, .null, .null] [] H Q = jm_c S 204 [.int x1, .int x3] (jm_pI H r0 60 (0 : Int32)) (fun v G => jm_w S 4 238 10 [.ref r0, .int x1, .int x2, .int x3, .null, .null, .null, .null] (v.toList ++ []) G Q) := (js1 at238_0 rfl rfl rfl).trans ((jsci at238_1 rfl rfl).trans ((jspI (H := H) at238_2 rv238p_420 rfl h0 rfl).trans ((js1 at238_5 rfl rfl rfl).trans ((js1 at238_6 rfl rfl rfl).trans (jscall (H := (jm_pI H r0 60 (0 : Int32))) (as := [.int x1, .int x3]) (q := []) at238_7 rfl rv238i_276 (jscut rfl rfl rfl (Nat.le_of_ble_eq_true rfl)) rfl (Nat.le_of_ble_eq_true rfl) rfl rfl)))))
theorem at238_10 : jm_at 238 10 = some (.ifCond .eq 22) := rfl
theorem u238_10 {S : Option (Nat × (Nat → Int32))} {H : jm_H} {Q : Option Value → jm_H → Prop} {r0 : Nat} {x1 x2 x3 p0 : Int32} : jm_w S 4 238 10 [.ref r0, .int x1, .int x2, .int x3, .null, .null, .null, .null] [.int p0] H Q = if p0 = 0 then jm_w S 4 238 32 [.ref r0, .int x1, .int x2, .int x3, .null, .null, .null, .null] [] H Q else jm_w S 4 238 13 [.ref r0, .int x1, .int x2, .int x3, .null, .null, .null, .null] [] H Q := jsif (P := p0 = 0) at238_10 rfl rfl
theorem at238_13 : jm_at 238 13 = some (.aload_n 0) := rfl
theorem at238_14 : jm_at 238 14 = some (.bipush 110) := rfl
theorem at238_16 : jm_at 238 16 = some (.invokevirtual 427) := rfl
theorem rv238i_427 : jm_rv 238 (.invokevirtual 427) = (2, 239, 0, 0) := rfl
theorem u238_13 {S : Option (Nat × (Nat → Int32))} {H : jm_H} {Q : Option Value → jm_H → Prop} {r0 : Nat} {x1 x2 x3 : Int32} (h0 : jm_tg H r0 = 13) : jm_w S 4 238 13 [.ref r0, .int x1, .int x2, .int x3, .null, .null, .null, .null] [] H Q = jm_c S 239 [.ref r0, .int (110 : Int32)] H (fun v G => jm_w S 4 238 19 [.ref r0, .int x1, .int x2, .int x3, .null, .null, .null, .null] (v.toList ++ []) G Q) := (js1 at238_13 rfl rfl rfl).trans ((jscb at238_14 rfl rfl).trans (jscall (H := H) (as := [.ref r0, .int (110 : Int32)]) (q := []) at238_16 rfl rv238i_427 (jscutV rfl rfl rfl (Nat.le_of_ble_eq_true rfl) rfl h0) rfl (Nat.le_of_ble_eq_true rfl) rfl rfl))
theorem at238_19 : jm_at 238 19 = some (.aload_n 0) := rfl
theorem at238_20 : jm_at 238 20 = some (.bipush 105) := rfl
theorem at238_22 : jm_at 238 22 = some (.invokevirtual 427) := rfl
theorem u238_19 {S : Option (Nat × (Nat → Int32))} {H : jm_H} {Q : Option Value → jm_H → Prop} {r0 : Nat} {x1 x2 x3 : Int32} (h0 : jm_tg H r0 = 13) : jm_w S 4 238 19 [.ref r0, .int x1, .int x2, .int x3, .null, .null, .null, .null] [] H Q = jm_c S 239 [.ref r0, .int (105 : Int32)] H (fun v G => jm_w S 4 238 25 [.ref r0, .int x1, .int x2, .int x3, .null, .null, .null, .null] (v.toList ++ []) G Q) := (js1 at238_19 rfl rfl rfl).trans ((jscb at238_20 rfl rfl).trans (jscall (H := H) (as := [.ref r0, .int (105 : Int32)]) (q := []) at238_22 rfl rv238i_427 (jscutV rfl rfl rfl (Nat.le_of_ble_eq_true rfl) rfl h0) rfl (Nat.le_of_ble_eq_true rfl) rfl rfl))
theorem at238_25 : jm_at 238 25 = some (.aload_n 0) := rfl
theorem at238_26 : jm_at 238 26 = some (.bipush 108) := rfl
theorem at238_28 : jm_at 238 28 = some (.invokevirtual 427) := rfl
theorem u238_25 {S : Option (Nat × (Nat → Int32))} {H : jm_H} {Q : Option Value → jm_H → Prop} {r0 : Nat} {x1 x2 x3 : Int32} (h0 : jm_tg H r0 = 13) : jm_w S 4 238 25 [.ref r0, .int x1, .int x2, .int x3, .null, .null, .null, .null] [] H Q = jm_c S 239 [.ref r0, .int (108 : Int32)] H (fun v G => jm_w S 4 238 31 [.ref r0, .int x1, .int x2, .int x3, .null, .null, .null, .null] (v.toList ++ []) G Q) := (js1 at238_25 rfl rfl rfl).trans ((jscb at238_26 rfl rfl).trans (jscall (H := H) (as := [.ref r0, .int (108 : Int32)]) (q := []) at238_28 rfl rv238i_427 (jscutV rfl rfl rfl (Nat.le_of_ble_eq_true rfl) rfl h0) rfl (Nat.le_of_ble_eq_true rfl) rfl rfl))
theorem at238_31 : jm_at 238 31 = some (.return_) := rfl
theorem u238_31 {S : Option (Nat × (Nat → Int32))} {H : jm_H} {Q : Option Value → jm_H → Prop} {r0 : Nat} {x1 x2 x3 : Int32} : jm_w S 4 238 31 [.ref r0, .int x1, .int x2, .int x3, .null, .null, .null, .null] [] H Q = Q none H := jsret_v at238_31 rfl
theorem at238_32 : jm_at 238 32 = some (.iload_n 3) := rfl
theorem at238_33 : jm_at 238 33 = some (.ifCond .ne 10) := rfl
theorem u238_32 {S : Option (Nat × (Nat → Int32))} {H : jm_H} {Q : Option Value → jm_H → Prop} {r0 : Nat} {x1 x2 x3 : Int32} : jm_w S 4 238 32 [.ref r0, .int x1, .int x2, .int x3, .null, .null, .null, .null] [] H Q = if ¬ x3 = 0 then jm_w S 4 238 43 [.ref r0, .int x1, .int x2, .int x3, .null, .null, .null, .null] [] H Q else jm_w S 4 238 36 [.ref r0, .int x1, .int x2, .int x3, .null, .null, .null, .null] [] H Q := (js1 at238_32 rfl rfl rfl).trans (jsif (P := ¬ x3 = 0) at238_33 rfl rfl)
theorem at238_36 : jm_at 238 36 = some (.aload_n 0) := rfl
theorem at238_37 : jm_at 238 37 = some (.bipush 48) := rfl
theorem at238_39 : jm_at 238 39 = some (.invokevirtual 427) := rfl
theorem u238_36 {S : Option (Nat × (Nat → Int32))} {H : jm_H} {Q : Option Value → jm_H → Prop} {r0 : Nat} {x1 x2 x3 : Int32} (h0 : jm_tg H r0 = 13) : jm_w S 4 238 36 [.ref r0, .int x1, .int x2, .int x3, .null, .null, .null, .null] [] H Q = jm_c S 239 [.ref r0, .int (48 : Int32)] H (fun v G => jm_w S 4 238 42 [.ref r0, .int x1, .int x2, .int x3, .null, .null, .null, .null] (v.toList ++ []) G Q) := (js1 at238_36 rfl rfl rfl).trans ((jscb at238_37 rfl rfl).trans (jscall (H := H) (as := [.ref r0, .int (48 : Int32)]) (q := []) at238_39 rfl rv238i_427 (jscutV rfl rfl rfl (Nat.le_of_ble_eq_true rfl) rfl h0) rfl (Nat.le_of_ble_eq_true rfl) rfl rfl))
theorem at238_42 : jm_at 238 42 = some (.return_) := rfl
theorem u238_42 {S : Option (Nat × (Nat → Int32))} {H : jm_H} {Q : Option Value → jm_H → Prop} {r0 : Nat} {x1 x2 x3 : Int32} : jm_w S 4 238 42 [.ref r0, .int x1, .int x2, .int x3, .null, .null, .null, .null] [] H Q = Q none H := jsret_v at238_42 rfl
theorem at238_43 : jm_at 238 43 = some (.iload_n 1) := rfl
theorem at238_44 : jm_at 238 44 = some (.iload_n 3) := rfl
theorem at238_45 : jm_at 238 45 = some (.invokestatic 348) := rfl
theorem rv238i_348 : jm_rv 238 (.invokestatic 348) = (1, 206, 0, 0) := rfl
theorem u238_43 {S : Option (Nat × (Nat → Int32))} {H : jm_H} {Q : Option Value → jm_H → Prop} {r0 : Nat} {x1 x2 x3 : Int32} : jm_w S 4 238 43 [.ref r0, .int x1, .int x2, .int x3, .null, .null, .null, .null] [] H Q = jm_c S 206 [.int x1, .int x3] H (fun v G => jm_w S 4 238 48 [.ref r0, .int x1, .int x2, .int x3, .null, .null, .null, .null] (v.toList ++ []) G Q) := (js1 at238_43 rfl rfl rfl).trans ((js1 at238_44 rfl rfl rfl).trans (jscall (H := H) (as := [.int x1, .int x3]) (q := []) at238_45 rfl rv238i_348 (jscut rfl rfl rfl (Nat.le_of_ble_eq_true rfl)) rfl (Nat.le_of_ble_eq_true rfl) rfl rfl))
theorem at238_48 : jm_at 238 48 = some (.ifCond .ge 9) := rfl
theorem u238_48 {S : Option (Nat × (Nat → Int32))} {H : jm_H} {Q : Option Value → jm_H → Prop} {r0 : Nat} {x1 x2 x3 p0 : Int32} : jm_w S 4 238 48 [.ref r0, .int x1, .int x2, .int x3, .null, .null, .null, .null] [.int p0] H Q = if 0 ≤ p0 then jm_w S 4 238 57 [.ref r0, .int x1, .int x2, .int x3, .null, .null, .null, .null] [] H Q else jm_w S 4 238 51 [.ref r0, .int x1, .int x2, .int x3, .null, .null, .null, .null] [] H Q := jsif (P := 0 ≤ p0) at238_48 rfl rfl
theorem at238_51 : jm_at 238 51 = some (.aload_n 0) := rfl
theorem at238_52 : jm_at 238 52 = some (.bipush 45) := rfl
theorem at238_54 : jm_at 238 54 = some (.invokevirtual 427) := rfl
theorem u238_51 {S : Option (Nat × (Nat → Int32))} {H : jm_H} {Q : Option Value → jm_H → Prop} {r0 : Nat} {x1 x2 x3 : Int32} (h0 : jm_tg H r0 = 13) : jm_w S 4 238 51 [.ref r0, .int x1, .int x2, .int x3, .null, .null, .null, .null] [] H Q = jm_c S 239 [.ref r0, .int (45 : Int32)] H (fun v G => jm_w S 4 238 57 [.ref r0, .int x1, .int x2, .int x3, .null, .null, .null, .null] (v.toList ++ []) G Q) := (js1 at238_51 rfl rfl rfl).trans ((jscb at238_52 rfl rfl).trans (jscall (H := H) (as := [.ref r0, .int (45 : Int32)]) (q := []) at238_54 rfl rv238i_427 (jscutV rfl rfl rfl (Nat.le_of_ble_eq_true rfl) rfl h0) rfl (Nat.le_of_ble_eq_true rfl) rfl rfl))
theorem at238_57 : jm_at 238 57 = some (.aload_n 0) := rfl
theorem at238_58 : jm_at 238 58 = some (.iload_n 1) := rfl
theorem at238_59 : jm_at 238 59 = some (.iload_n 2) := rfl
theorem at238_60 : jm_at 238 60 = some (.iload_n 3) := rfl
theorem at238_61 : jm_at 238 61 = some (.invokevirtual 345) := rfl
theorem rv238i_345 : jm_rv 238 (.invokevirtual 345) = (2, 193, 0, 0) := rfl
theorem u238_57 {S : Option (Nat × (Nat → Int32))} {H : jm_H} {Q : Option Value → jm_H → Prop} {r0 : Nat} {x1 x2 x3 : Int32} (h0 : jm_tg H r0 = 13) : jm_w S 4 238 57 [.ref r0, .int x1, .int x2, .int x3, .null, .null, .null, .null] [] H Q = jm_c S 193 [.ref r0, .int x1, .int x2, .int x3] H (fun v G => jm_w S 4 238 64 [.ref r0, .int x1, .int x2, .int x3, .null, .null, .null, .null] (v.toList ++ []) G Q) := (js1 at238_57 rfl rfl rfl).trans ((js1 at238_58 rfl rfl rfl).trans ((js1 at238_59 rfl rfl rfl).trans ((js1 at238_60 rfl rfl rfl).trans (jscall (H := H) (as := [.ref r0, .int x1, .int x2, .int x3]) (q := []) at238_61 rfl rv238i_345 (jscutV rfl rfl rfl (Nat.le_of_ble_eq_true rfl) rfl h0) rfl (Nat.le_of_ble_eq_true rfl) rfl rfl))))
theorem at238_64 : jm_at 238 64 = some (.aload_n 0) := rfl
theorem at238_65 : jm_at 238 65 = some (.getfield 331) := rfl
theorem rv238g_331 : jm_rv 238 (.getfield 331) = (0, 12, 49, 0) := rfl
theorem at238_68 : jm_at 238 68 = some (.ifCond .lt 18) := rfl
theorem u238_64 {S : Option (Nat × (Nat → Int32))} {H : jm_H} {Q : Option Value → jm_H → Prop} {r0 : Nat} {x1 x2 x3 : Int32} (h0 : jm_tg H r0 = 13) : jm_w S 4 238 64 [.ref r0, .int x1, .int x2, .int x3, .null, .null, .null, .null] [] H Q = if (jm_I H r0 49) < 0 then jm_w S 4 238 86 [.ref r0, .int x1, .int x2, .int x3, .null, .null, .null, .null] [] H Q else jm_w S 4 238 71 [.ref r0, .int x1, .int x2, .int x3, .null, .null, .null, .null] [] H Q := (js1 at238_64 rfl rfl rfl).trans ((jsgI (H := H) at238_65 rv238g_331 (Or.inl rfl) h0 rfl).trans (jsif (P := (jm_I H r0 49) < 0) at238_68 rfl rfl))
theorem at238_71 : jm_at 238 71 = some (.aload_n 0) := rfl
theorem at238_72 : jm_at 238 72 = some (.aload_n 0) := rfl
theorem at238_73 : jm_at 238 73 = some (.getfield 328) := rfl
theorem rv238g_328 : jm_rv 238 (.getfield 328) = (0, 12, 48, 0) := rfl
theorem at238_76 : jm_at 238 76 = some (.i2l) := rfl
theorem at238_77 : jm_at 238 77 = some (.aload_n 0) := rfl
theorem at238_78 : jm_at 238 78 = some (.getfield 331) := rfl
theorem at238_81 : jm_at 238 81 = some (.lshl) := rfl
theorem at238_82 : jm_at 238 82 = some (.invokevirtual 430) := rfl
theorem rv238i_430 : jm_rv 238 (.invokevirtual 430) = (2, 240, 0, 0) := rfl
theorem u238_71 {S : Option (Nat × (Nat → Int32))} {H : jm_H} {Q : Option Value → jm_H → Prop} {r0 : Nat} {x1 x2 x3 : Int32} (h0 : jm_tg H r0 = 13) : jm_w S 4 238 71 [.ref r0, .int x1, .int x2, .int x3, .null, .null, .null, .null] [] H Q = jm_c S 240 [.ref r0, .long ((Int32.toInt64 (jm_I H r0 48)) <<< (Int32.toInt64 (jm_I H r0 49) &&& 63))] H (fun v G => jm_w S 4 238 85 [.ref r0, .int x1, .int x2, .int x3, .null, .null, .null, .null] (v.toList ++ []) G Q) := (js1 at238_71 rfl rfl rfl).trans ((js1 at238_72 rfl rfl rfl).trans ((jsgI (H := H) at238_73 rv238g_328 (Or.inl rfl) h0 rfl).trans ((js0 at238_76 rfl rfl rfl).trans ((js1 at238_77 rfl rfl rfl).trans ((jsgI (H := H) at238_78 rv238g_331 (Or.inl rfl) h0 rfl).trans ((js0 at238_81 rfl rfl rfl).trans (jscall (H := H) (as := [.ref r0, .long ((Int32.toInt64 (jm_I H r0 48)) <<< (Int32.toInt64 (jm_I H r0 49) &&& 63))]) (q := []) at238_82 rfl rv238i_430 (jscutV rfl rfl rfl (Nat.le_of_ble_eq_true rfl) rfl h0) rfl (Nat.le_of_ble_eq_true rfl) rfl rfl)))))))
theorem at238_85 : jm_at 238 85 = some (.return_) := rfl
theorem u238_85 {S : Option (Nat × (Nat → Int32))} {H : jm_H} {Q : Option Value → jm_H → Prop} {r0 : Nat} {x1 x2 x3 : Int32} : jm_w S 4 238 85 [.ref r0, .int x1, .int x2, .int x3, .null, .null, .null, .null] [] H Q = Q none H := jsret_v at238_85 rfl
theorem at238_86 : jm_at 238 86 = some (.lconst 1) := rfl
theorem at238_87 : jm_at 238 87 = some (.aload_n 0) := rfl
theorem at238_88 : jm_at 238 88 = some (.getfield 331) := rfl
theorem at238_91 : jm_at 238 91 = some (.ineg) := rfl
theorem at238_92 : jm_at 238 92 = some (.lshl) := rfl
theorem at238_93 : jm_at 238 93 = some (.lstore 4) := rfl
theorem at238_95 : jm_at 238 95 = some (.aload_n 0) := rfl
theorem at238_96 : jm_at 238 96 = some (.aload_n 0) := rfl
theorem at238_97 : jm_at 238 97 = some (.getfield 328) := rfl
theorem at238_100 : jm_at 238 100 = some (.i2l) := rfl
theorem at238_101 : jm_at 238 101 = some (.lload 4) := rfl
theorem at238_103 : jm_at 238 103 = some (.ldiv) := rfl
theorem at238_104 : jm_at 238 104 = some (.invokevirtual 430) := rfl
theorem u238_86 {S : Option (Nat × (Nat → Int32))} {H : jm_H} {Q : Option Value → jm_H → Prop} {r0 : Nat} {x1 x2 x3 : Int32} (h0 : jm_tg H r0 = 13) (h1 : ¬ ((1 : Int64) <<< (Int32.toInt64 (-(jm_I H r0 49)) &&& 63)) = 0) : jm_w S 4 238 86 [.ref r0, .int x1, .int x2, .int x3, .null, .null, .null, .null] [] H Q = jm_c S 240 [.ref r0, .long ((Int32.toInt64 (jm_I H r0 48)) / ((1 : Int64) <<< (Int32.toInt64 (-(jm_I H r0 49)) &&& 63)))] H (fun v G => jm_w S 4 238 107 [.ref r0, .int x1, .int x2, .int x3, .long ((1 : Int64) <<< (Int32.toInt64 (-(jm_I H r0 49)) &&& 63)), .null, .null, .null] (v.toList ++ []) G Q) := (jscl at238_86 rfl rfl).trans ((js1 at238_87 rfl rfl rfl).trans ((jsgI (H := H) at238_88 rv238g_331 (Or.inl rfl) h0 rfl).trans ((js0 at238_91 rfl rfl rfl).trans ((js0 at238_92 rfl rfl rfl).trans ((js1 at238_93 rfl rfl rfl).trans ((js1 at238_95 rfl rfl rfl).trans ((js1 at238_96 rfl rfl rfl).trans ((jsgI (H := H) at238_97 rv238g_328 (Or.inl rfl) h0 rfl).trans ((js0 at238_100 rfl rfl rfl).trans ((js1 at238_101 rfl rfl rfl).trans ((jsldiv at238_103 h1 rfl).trans (jscall (H := H) (as := [.ref r0, .long ((Int32.toInt64 (jm_I H r0 48)) / ((1 : Int64) <<< (Int32.toInt64 (-(jm_I H r0 49)) &&& 63)))]) (q := []) at238_104 rfl rv238i_430 (jscutV rfl rfl rfl (Nat.le_of_ble_eq_true rfl) rfl h0) rfl (Nat.le_of_ble_eq_true rfl) rfl rfl))))))))))))
theorem at238_107 : jm_at 238 107 = some (.aload_n 0) := rfl
theorem at238_108 : jm_at 238 108 = some (.getfield 328) := rfl
theorem at238_111 : jm_at 238 111 = some (.i2l) := rfl
theorem at238_112 : jm_at 238 112 = some (.lload 4) := rfl
theorem at238_114 : jm_at 238 114 = some (.lrem) := rfl
theorem at238_115 : jm_at 238 115 = some (.lstore 6) := rfl
theorem at238_117 : jm_at 238 117 = some (.lload 6) := rfl
theorem at238_119 : jm_at 238 119 = some (.lconst 0) := rfl
theorem at238_120 : jm_at 238 120 = some (.lcmp) := rfl
theorem at238_121 : jm_at 238 121 = some (.ifCond .le 9) := rfl
theorem u238_107 {S : Option (Nat × (Nat → Int32))} {H : jm_H} {Q : Option Value → jm_H → Prop} {r0 : Nat} {x1 x2 x3 : Int32} {y4 : Int64} (h0 : jm_tg H r0 = 13) (h1 : ¬ y4 = 0) : jm_w S 4 238 107 [.ref r0, .int x1, .int x2, .int x3, .long y4, .null, .null, .null] [] H Q = if (lg_cmp ((Int32.toInt64 (jm_I H r0 48)) - (Int32.toInt64 (jm_I H r0 48)) / y4 * y4) (0 : Int64)) ≤ 0 then jm_w S 4 238 130 [.ref r0, .int x1, .int x2, .int x3, .long y4, .null, .long ((Int32.toInt64 (jm_I H r0 48)) - (Int32.toInt64 (jm_I H r0 48)) / y4 * y4), .null] [] H Q else jm_w S 4 238 124 [.ref r0, .int x1, .int x2, .int x3, .long y4, .null, .long ((Int32.toInt64 (jm_I H r0 48)) - (Int32.toInt64 (jm_I H r0 48)) / y4 * y4), .null] [] H Q := (js1 at238_107 rfl rfl rfl).trans ((jsgI (H := H) at238_108 rv238g_328 (Or.inl rfl) h0 rfl).trans ((js0 at238_111 rfl rfl rfl).trans ((js1 at238_112 rfl rfl rfl).trans ((jslrem at238_114 h1 rfl).trans ((js1 at238_115 rfl rfl rfl).trans ((js1 at238_117 rfl rfl rfl).trans ((jscl at238_119 rfl rfl).trans ((js0 at238_120 rfl rfl rfl).trans (jsif (P := (lg_cmp ((Int32.toInt64 (jm_I H r0 48)) - (Int32.toInt64 (jm_I H r0 48)) / y4 * y4) (0 : Int64)) ≤ 0) at238_121 rfl rfl)))))))))
theorem at238_124 : jm_at 238 124 = some (.aload_n 0) := rfl
theorem at238_125 : jm_at 238 125 = some (.bipush 46) := rfl
theorem at238_127 : jm_at 238 127 = some (.invokevirtual 427) := rfl
theorem u238_124 {S : Option (Nat × (Nat → Int32))} {H : jm_H} {Q : Option Value → jm_H → Prop} {r0 : Nat} {x1 x2 x3 : Int32} {y4 y6 : Int64} (h0 : jm_tg H r0 = 13) : jm_w S 4 238 124 [.ref r0, .int x1, .int x2, .int x3, .long y4, .null, .long y6, .null] [] H Q = jm_c S 239 [.ref r0, .int (46 : Int32)] H (fun v G => jm_w S 4 238 130 [.ref r0, .int x1, .int x2, .int x3, .long y4, .null, .long y6, .null] (v.toList ++ []) G Q) := (js1 at238_124 rfl rfl rfl).trans ((jscb at238_125 rfl rfl).trans (jscall (H := H) (as := [.ref r0, .int (46 : Int32)]) (q := []) at238_127 rfl rv238i_427 (jscutV rfl rfl rfl (Nat.le_of_ble_eq_true rfl) rfl h0) rfl (Nat.le_of_ble_eq_true rfl) rfl rfl))
theorem at238_130 : jm_at 238 130 = some (.lload 6) := rfl
theorem at238_132 : jm_at 238 132 = some (.lconst 0) := rfl
theorem at238_133 : jm_at 238 133 = some (.lcmp) := rfl
theorem at238_134 : jm_at 238 134 = some (.ifCond .le 34) := rfl
theorem u238_130 {S : Option (Nat × (Nat → Int32))} {H : jm_H} {Q : Option Value → jm_H → Prop} {r0 : Nat} {x1 x2 x3 : Int32} {y4 y6 : Int64} : jm_w S 4 238 130 [.ref r0, .int x1, .int x2, .int x3, .long y4, .null, .long y6, .null] [] H Q = if (lg_cmp y6 (0 : Int64)) ≤ 0 then jm_w S 4 238 168 [.ref r0, .int x1, .int x2, .int x3, .long y4, .null, .long y6, .null] [] H Q else jm_w S 4 238 137 [.ref r0, .int x1, .int x2, .int x3, .long y4, .null, .long y6, .null] [] H Q := (js1 at238_130 rfl rfl rfl).trans ((jscl at238_132 rfl rfl).trans ((js0 at238_133 rfl rfl rfl).trans (jsif (P := (lg_cmp y6 (0 : Int64)) ≤ 0) at238_134 rfl rfl)))
theorem at238_137 : jm_at 238 137 = some (.lload 6) := rfl
theorem at238_139 : jm_at 238 139 = some (.ldc2_w 425) := rfl
theorem rv238l_425 : jm_rv 238 (.ldc2_w 425) = (9, 0, 0, 10) := rfl
theorem at238_142 : jm_at 238 142 = some (.lmul) := rfl
theorem at238_143 : jm_at 238 143 = some (.lstore 6) := rfl
theorem at238_145 : jm_at 238 145 = some (.aload_n 0) := rfl
theorem at238_146 : jm_at 238 146 = some (.bipush 48) := rfl
theorem at238_148 : jm_at 238 148 = some (.lload 6) := rfl
theorem at238_150 : jm_at 238 150 = some (.lload 4) := rfl
theorem at238_152 : jm_at 238 152 = some (.ldiv) := rfl
theorem at238_153 : jm_at 238 153 = some (.l2i) := rfl
theorem at238_154 : jm_at 238 154 = some (.iadd) := rfl
theorem at238_155 : jm_at 238 155 = some (.invokevirtual 427) := rfl
theorem u238_137 {S : Option (Nat × (Nat → Int32))} {H : jm_H} {Q : Option Value → jm_H → Prop} {r0 : Nat} {x1 x2 x3 : Int32} {y4 y6 : Int64} (h0 : ¬ y4 = 0) (h1 : jm_tg H r0 = 13) : jm_w S 4 238 137 [.ref r0, .int x1, .int x2, .int x3, .long y4, .null, .long y6, .null] [] H Q = jm_c S 239 [.ref r0, .int ((48 : Int32) + (Int64.toInt32 ((y6 * (10 : Int64)) / y4)))] H (fun v G => jm_w S 4 238 158 [.ref r0, .int x1, .int x2, .int x3, .long y4, .null, .long (y6 * (10 : Int64)), .null] (v.toList ++ []) G Q) := (js1 at238_137 rfl rfl rfl).trans ((jsk2 at238_139 rv238l_425 rfl rfl).trans ((js0 at238_142 rfl rfl rfl).trans ((js1 at238_143 rfl rfl rfl).trans ((js1 at238_145 rfl rfl rfl).trans ((jscb at238_146 rfl rfl).trans ((js1 at238_148 rfl rfl rfl).trans ((js1 at238_150 rfl rfl rfl).trans ((jsldiv at238_152 h0 rfl).trans ((js0 at238_153 rfl rfl rfl).trans ((js0 at238_154 rfl rfl rfl).trans (jscall (H := H) (as := [.ref r0, .int ((48 : Int32) + (Int64.toInt32 ((y6 * (10 : Int64)) / y4)))]) (q := []) at238_155 rfl rv238i_427 (jscutV rfl rfl rfl (Nat.le_of_ble_eq_true rfl) rfl h1) rfl (Nat.le_of_ble_eq_true rfl) rfl rfl)))))))))))
theorem at238_158 : jm_at 238 158 = some (.lload 6) := rfl
theorem at238_160 : jm_at 238 160 = some (.lload 4) := rfl
theorem at238_162 : jm_at 238 162 = some (.lrem) := rfl
theorem at238_163 : jm_at 238 163 = some (.lstore 6) := rfl
theorem at238_165 : jm_at 238 165 = some (.goto (-35)) := rfl
theorem u238_158 {S : Option (Nat × (Nat → Int32))} {H : jm_H} {Q : Option Value → jm_H → Prop} {r0 : Nat} {x1 x2 x3 : Int32} {y4 y6 : Int64} (h0 : ¬ y4 = 0) : jm_w S 4 238 158 [.ref r0, .int x1, .int x2, .int x3, .long y4, .null, .long y6, .null] [] H Q = jm_w S 4 238 130 [.ref r0, .int x1, .int x2, .int x3, .long y4, .null, .long (y6 - y6 / y4 * y4), .null] [] H Q := (js1 at238_158 rfl rfl rfl).trans ((js1 at238_160 rfl rfl rfl).trans ((jslrem at238_162 h0 rfl).trans ((js1 at238_163 rfl rfl rfl).trans (js2 at238_165 rfl rfl))))
theorem at238_168 : jm_at 238 168 = some (.return_) := rfl
theorem u238_168 {S : Option (Nat × (Nat → Int32))} {H : jm_H} {Q : Option Value → jm_H → Prop} {r0 : Nat} {x1 x2 x3 : Int32} {y4 y6 : Int64} : jm_w S 4 238 168 [.ref r0, .int x1, .int x2, .int x3, .long y4, .null, .long y6, .null] [] H Q = Q none H := jsret_v at238_168 rfl
theorem en238 {S : Option (Nat × (Nat → Int32))} {H : jm_H} {Q : Option Value → jm_H → Prop} {r0 : Nat} {x1 x2 x3 : Int32} : jm_c S 238 [.ref r0, .int x1, .int x2, .int x3] H Q = jm_w S 4 238 0 [.ref r0, .int x1, .int x2, .int x3, .null, .null, .null, .null] [] H Q := rfl
theorem at239_0 : jm_at 239 0 = some (.aload_n 0) := rfl
theorem at239_1 : jm_at 239 1 = some (.getfield 98) := rfl
theorem rv239g_98 : jm_rv 239 (.getfield 98) = (0, 12, 59, 0) := rfl
theorem at239_4 : jm_at 239 4 = some (.aload_n 0) := rfl
theorem at239_5 : jm_at 239 5 = some (.getfield 420) := rfl
theorem rv239g_420 : jm_rv 239 (.getfield 420) = (0, 12, 60, 0) := rfl
theorem at239_8 : jm_at 239 8 = some (.iload_n 1) := rfl
theorem at239_9 : jm_at 239 9 = some (.iastore) := rfl
theorem at239_10 : jm_at 239 10 = some (.aload_n 0) := rfl
theorem at239_11 : jm_at 239 11 = some (.dup) := rfl
theorem at239_12 : jm_at 239 12 = some (.getfield 420) := rfl
theorem at239_15 : jm_at 239 15 = some (.iconst 1) := rfl
theorem at239_16 : jm_at 239 16 = some (.iadd) := rfl
theorem at239_17 : jm_at 239 17 = some (.putfield 420) := rfl
theorem rv239p_420 : jm_rv 239 (.putfield 420) = (0, 12, 60, 0) := rfl
theorem at239_20 : jm_at 239 20 = some (.return_) := rfl
theorem u239_0 {S : Option (Nat × (Nat → Int32))} {H : jm_H} {Q : Option Value → jm_H → Prop} {r0 : Nat} {x1 : Int32} (h0 : jm_tg H r0 = 13) (h1 : ¬ jm_R H r0 59 = 0) (h2 : ¬ ((jm_I H r0 60) < 0 ∨ jm_ln H (jm_R H r0 59) ≤ Int32.toNatClampNeg (jm_I H r0 60))) (h3 : jm_tg H (jm_R H r0 59) = 100) : jm_w S 1 239 0 [.ref r0, .int x1] [] H Q = Q none (jm_pI (jm_pI H (jm_R H r0 59) (Int32.toNatClampNeg (jm_I H r0 60)) x1) r0 60 ((jm_I (jm_pI H (jm_R H r0 59) (Int32.toNatClampNeg (jm_I H r0 60)) x1) r0 60) + (1 : Int32))) := (js1 at239_0 rfl rfl rfl).trans ((jsgR (H := H) at239_1 rv239g_98 rfl h0 h1 rfl).trans ((js1 at239_4 rfl rfl rfl).trans ((jsgI (H := H) at239_5 rv239g_420 (Or.inl rfl) h0 rfl).trans ((js1 at239_8 rfl rfl rfl).trans ((jsias (H := H) at239_9 h3 h2 rfl).trans ((js1 at239_10 rfl rfl rfl).trans ((js0 at239_11 rfl rfl rfl).trans ((jsgI (H := (jm_pI H (jm_R H r0 59) (Int32.toNatClampNeg (jm_I H r0 60)) x1)) at239_12 rv239g_420 (Or.inl rfl) h0 rfl).trans ((jsci at239_15 rfl rfl).trans ((js0 at239_16 rfl rfl rfl).trans ((jspI (H := (jm_pI H (jm_R H r0 59) (Int32.toNatClampNeg (jm_I H r0 60)) x1)) at239_17 rv239p_420 rfl h0 rfl).trans (jsret_v at239_20 rfl))))))))))))
theorem en239 {S : Option (Nat × (Nat → Int32))} {H : jm_H} {Q : Option Value → jm_H → Prop} {r0 : Nat} {x1 : Int32} : jm_c S 239 [.ref r0, .int x1] H Q = jm_w S 1 239 0 [.ref r0, .int x1] [] H Q := rfl
theorem at240_0 : jm_at 240 0 = some (.lconst 1) := rfl
theorem at240_1 : jm_at 240 1 = some (.lstore_n 3) := rfl
theorem u240_0 {S : Option (Nat × (Nat → Int32))} {H : jm_H} {Q : Option Value → jm_H → Prop} {r0 : Nat} {y1 : Int64} : jm_w S 2 240 0 [.ref r0, .long y1, .null, .null, .null] [] H Q = jm_w S 2 240 2 [.ref r0, .long y1, .null, .long (1 : Int64), .null] [] H Q := (jscl at240_0 rfl rfl).trans (js1 at240_1 rfl rfl rfl)
theorem at240_2 : jm_at 240 2 = some (.lload_n 1) := rfl
theorem at240_3 : jm_at 240 3 = some (.lload_n 3) := rfl
theorem at240_4 : jm_at 240 4 = some (.ldiv) := rfl
theorem at240_5 : jm_at 240 5 = some (.ldc2_w 423) := rfl
theorem rv240l_423 : jm_rv 240 (.ldc2_w 423) = (9, 0, 0, 9) := rfl
theorem at240_8 : jm_at 240 8 = some (.lcmp) := rfl
theorem at240_9 : jm_at 240 9 = some (.ifCond .le 12) := rfl
theorem u240_2 {S : Option (Nat × (Nat → Int32))} {H : jm_H} {Q : Option Value → jm_H → Prop} {r0 : Nat} {y1 y3 : Int64} (h0 : ¬ y3 = 0) : jm_w S 2 240 2 [.ref r0, .long y1, .null, .long y3, .null] [] H Q = if (lg_cmp (y1 / y3) (9 : Int64)) ≤ 0 then jm_w S 2 240 21 [.ref r0, .long y1, .null, .long y3, .null] [] H Q else jm_w S 2 240 12 [.ref r0, .long y1, .null, .long y3, .null] [] H Q := (js1 at240_2 rfl rfl rfl).trans ((js1 at240_3 rfl rfl rfl).trans ((jsldiv at240_4 h0 rfl).trans ((jsk2 at240_5 rv240l_423 rfl rfl).trans ((js0 at240_8 rfl rfl rfl).trans (jsif (P := (lg_cmp (y1 / y3) (9 : Int64)) ≤ 0) at240_9 rfl rfl)))))
theorem at240_12 : jm_at 240 12 = some (.lload_n 3) := rfl
theorem at240_13 : jm_at 240 13 = some (.ldc2_w 425) := rfl
theorem rv240l_425 : jm_rv 240 (.ldc2_w 425) = (9, 0, 0, 10) := rfl
theorem at240_16 : jm_at 240 16 = some (.lmul) := rfl
theorem at240_17 : jm_at 240 17 = some (.lstore_n 3) := rfl
theorem at240_18 : jm_at 240 18 = some (.goto (-16)) := rfl
theorem u240_12 {S : Option (Nat × (Nat → Int32))} {H : jm_H} {Q : Option Value → jm_H → Prop} {r0 : Nat} {y1 y3 : Int64} : jm_w S 2 240 12 [.ref r0, .long y1, .null, .long y3, .null] [] H Q = jm_w S 2 240 2 [.ref r0, .long y1, .null, .long (y3 * (10 : Int64)), .null] [] H Q := (js1 at240_12 rfl rfl rfl).trans ((jsk2 at240_13 rv240l_425 rfl rfl).trans ((js0 at240_16 rfl rfl rfl).trans ((js1 at240_17 rfl rfl rfl).trans (js2 at240_18 rfl rfl))))
theorem at240_21 : jm_at 240 21 = some (.lload_n 3) := rfl
theorem at240_22 : jm_at 240 22 = some (.lconst 0) := rfl
theorem at240_23 : jm_at 240 23 = some (.lcmp) := rfl
theorem at240_24 : jm_at 240 24 = some (.ifCond .le 27) := rfl
theorem u240_21 {S : Option (Nat × (Nat → Int32))} {H : jm_H} {Q : Option Value → jm_H → Prop} {r0 : Nat} {y1 y3 : Int64} : jm_w S 2 240 21 [.ref r0, .long y1, .null, .long y3, .null] [] H Q = if (lg_cmp y3 (0 : Int64)) ≤ 0 then jm_w S 2 240 51 [.ref r0, .long y1, .null, .long y3, .null] [] H Q else jm_w S 2 240 27 [.ref r0, .long y1, .null, .long y3, .null] [] H Q := (js1 at240_21 rfl rfl rfl).trans ((jscl at240_22 rfl rfl).trans ((js0 at240_23 rfl rfl rfl).trans (jsif (P := (lg_cmp y3 (0 : Int64)) ≤ 0) at240_24 rfl rfl)))
theorem at240_27 : jm_at 240 27 = some (.aload_n 0) := rfl
theorem at240_28 : jm_at 240 28 = some (.bipush 48) := rfl
theorem at240_30 : jm_at 240 30 = some (.lload_n 1) := rfl
theorem at240_31 : jm_at 240 31 = some (.lload_n 3) := rfl
theorem at240_32 : jm_at 240 32 = some (.ldiv) := rfl
theorem at240_33 : jm_at 240 33 = some (.ldc2_w 425) := rfl
theorem at240_36 : jm_at 240 36 = some (.lrem) := rfl
theorem at240_37 : jm_at 240 37 = some (.l2i) := rfl
theorem at240_38 : jm_at 240 38 = some (.iadd) := rfl
theorem at240_39 : jm_at 240 39 = some (.invokevirtual 427) := rfl
theorem rv240i_427 : jm_rv 240 (.invokevirtual 427) = (2, 239, 0, 0) := rfl
theorem u240_27 {S : Option (Nat × (Nat → Int32))} {H : jm_H} {Q : Option Value → jm_H → Prop} {r0 : Nat} {y1 y3 : Int64} (h0 : ¬ y3 = 0) (h1 : jm_tg H r0 = 13) : jm_w S 2 240 27 [.ref r0, .long y1, .null, .long y3, .null] [] H Q = jm_c S 239 [.ref r0, .int ((48 : Int32) + (Int64.toInt32 ((y1 / y3) - (y1 / y3) / (10 : Int64) * (10 : Int64))))] H (fun v G => jm_w S 2 240 42 [.ref r0, .long y1, .null, .long y3, .null] (v.toList ++ []) G Q) := (js1 at240_27 rfl rfl rfl).trans ((jscb at240_28 rfl rfl).trans ((js1 at240_30 rfl rfl rfl).trans ((js1 at240_31 rfl rfl rfl).trans ((jsldiv at240_32 h0 rfl).trans ((jsk2 at240_33 rv240l_425 rfl rfl).trans ((jslrem at240_36 (by decide) rfl).trans ((js0 at240_37 rfl rfl rfl).trans ((js0 at240_38 rfl rfl rfl).trans (jscall (H := H) (as := [.ref r0, .int ((48 : Int32) + (Int64.toInt32 ((y1 / y3) - (y1 / y3) / (10 : Int64) * (10 : Int64))))]) (q := []) at240_39 rfl rv240i_427 (jscutV rfl rfl rfl (Nat.le_of_ble_eq_true rfl) rfl h1) rfl (Nat.le_of_ble_eq_true rfl) rfl rfl)))))))))
theorem at240_42 : jm_at 240 42 = some (.lload_n 3) := rfl
theorem at240_43 : jm_at 240 43 = some (.ldc2_w 425) := rfl
theorem at240_46 : jm_at 240 46 = some (.ldiv) := rfl
theorem at240_47 : jm_at 240 47 = some (.lstore_n 3) := rfl
theorem at240_48 : jm_at 240 48 = some (.goto (-27)) := rfl
theorem u240_42 {S : Option (Nat × (Nat → Int32))} {H : jm_H} {Q : Option Value → jm_H → Prop} {r0 : Nat} {y1 y3 : Int64} : jm_w S 2 240 42 [.ref r0, .long y1, .null, .long y3, .null] [] H Q = jm_w S 2 240 21 [.ref r0, .long y1, .null, .long (y3 / (10 : Int64)), .null] [] H Q := (js1 at240_42 rfl rfl rfl).trans ((jsk2 at240_43 rv240l_425 rfl rfl).trans ((jsldiv at240_46 (by decide) rfl).trans ((js1 at240_47 rfl rfl rfl).trans (js2 at240_48 rfl rfl))))
theorem at240_51 : jm_at 240 51 = some (.return_) := rfl
theorem u240_51 {S : Option (Nat × (Nat → Int32))} {H : jm_H} {Q : Option Value → jm_H → Prop} {r0 : Nat} {y1 y3 : Int64} : jm_w S 2 240 51 [.ref r0, .long y1, .null, .long y3, .null] [] H Q = Q none H := jsret_v at240_51 rfl
theorem en240 {S : Option (Nat × (Nat → Int32))} {H : jm_H} {Q : Option Value → jm_H → Prop} {r0 : Nat} {y1 : Int64} : jm_c S 240 [.ref r0, .long y1] H Q = jm_w S 2 240 0 [.ref r0, .long y1, .null, .null, .null] [] H Q := rfl
theorem at241_0 : jm_at 241 0 = some (.iload_n 1) := rfl
theorem at241_1 : jm_at 241 1 = some (.iload_n 2) := rfl
theorem at241_2 : jm_at 241 2 = some (.iload_n 3) := rfl
theorem at241_3 : jm_at 241 3 = some (.invokestatic 302) := rfl
theorem rv241i_302 : jm_rv 241 (.invokestatic 302) = (1, 220, 0, 0) := rfl
theorem u241_0 {S : Option (Nat × (Nat → Int32))} {H : jm_H} {Q : Option Value → jm_H → Prop} {r0 : Nat} {x1 x2 x3 x4 x5 : Int32} : jm_w S 8 241 0 [.ref r0, .int x1, .int x2, .int x3, .int x4, .int x5, .null, .null, .null, .null] [] H Q = jm_c S 220 [.int x1, .int x2, .int x3] H (fun v G => jm_w S 8 241 6 [.ref r0, .int x1, .int x2, .int x3, .int x4, .int x5, .null, .null, .null, .null] (v.toList ++ []) G Q) := (js1 at241_0 rfl rfl rfl).trans ((js1 at241_1 rfl rfl rfl).trans ((js1 at241_2 rfl rfl rfl).trans (jscall (H := H) (as := [.int x1, .int x2, .int x3]) (q := []) at241_3 rfl rv241i_302 (jscut rfl rfl rfl (Nat.le_of_ble_eq_true rfl)) rfl (Nat.le_of_ble_eq_true rfl) rfl rfl)))
theorem at241_6 : jm_at 241 6 = some (.ifCond .eq 23) := rfl
theorem u241_6 {S : Option (Nat × (Nat → Int32))} {H : jm_H} {Q : Option Value → jm_H → Prop} {r0 : Nat} {x1 x2 x3 x4 x5 p0 : Int32} : jm_w S 8 241 6 [.ref r0, .int x1, .int x2, .int x3, .int x4, .int x5, .null, .null, .null, .null] [.int p0] H Q = if p0 = 0 then jm_w S 8 241 29 [.ref r0, .int x1, .int x2, .int x3, .int x4, .int x5, .null, .null, .null, .null] [] H Q else jm_w S 8 241 9 [.ref r0, .int x1, .int x2, .int x3, .int x4, .int x5, .null, .null, .null, .null] [] H Q := jsif (P := p0 = 0) at241_6 rfl rfl
theorem at241_9 : jm_at 241 9 = some (.iload_n 1) := rfl
theorem at241_10 : jm_at 241 10 = some (.iload_n 2) := rfl
theorem at241_11 : jm_at 241 11 = some (.iload 4) := rfl
theorem at241_13 : jm_at 241 13 = some (.invokestatic 302) := rfl
theorem u241_9 {S : Option (Nat × (Nat → Int32))} {H : jm_H} {Q : Option Value → jm_H → Prop} {r0 : Nat} {x1 x2 x3 x4 x5 : Int32} : jm_w S 8 241 9 [.ref r0, .int x1, .int x2, .int x3, .int x4, .int x5, .null, .null, .null, .null] [] H Q = jm_c S 220 [.int x1, .int x2, .int x4] H (fun v G => jm_w S 8 241 16 [.ref r0, .int x1, .int x2, .int x3, .int x4, .int x5, .null, .null, .null, .null] (v.toList ++ []) G Q) := (js1 at241_9 rfl rfl rfl).trans ((js1 at241_10 rfl rfl rfl).trans ((js1 at241_11 rfl rfl rfl).trans (jscall (H := H) (as := [.int x1, .int x2, .int x4]) (q := []) at241_13 rfl rv241i_302 (jscut rfl rfl rfl (Nat.le_of_ble_eq_true rfl)) rfl (Nat.le_of_ble_eq_true rfl) rfl rfl)))
theorem at241_16 : jm_at 241 16 = some (.ifCond .eq 13) := rfl
theorem u241_16 {S : Option (Nat × (Nat → Int32))} {H : jm_H} {Q : Option Value → jm_H → Prop} {r0 : Nat} {x1 x2 x3 x4 x5 p0 : Int32} : jm_w S 8 241 16 [.ref r0, .int x1, .int x2, .int x3, .int x4, .int x5, .null, .null, .null, .null] [.int p0] H Q = if p0 = 0 then jm_w S 8 241 29 [.ref r0, .int x1, .int x2, .int x3, .int x4, .int x5, .null, .null, .null, .null] [] H Q else jm_w S 8 241 19 [.ref r0, .int x1, .int x2, .int x3, .int x4, .int x5, .null, .null, .null, .null] [] H Q := jsif (P := p0 = 0) at241_16 rfl rfl
theorem at241_19 : jm_at 241 19 = some (.iload 5) := rfl
theorem at241_21 : jm_at 241 21 = some (.iconst 0) := rfl
theorem at241_22 : jm_at 241 22 = some (.iconst 2) := rfl
theorem at241_23 : jm_at 241 23 = some (.invokestatic 218) := rfl
theorem rv241i_218 : jm_rv 241 (.invokestatic 218) = (1, 176, 0, 0) := rfl
theorem u241_19 {S : Option (Nat × (Nat → Int32))} {H : jm_H} {Q : Option Value → jm_H → Prop} {r0 : Nat} {x1 x2 x3 x4 x5 : Int32} : jm_w S 8 241 19 [.ref r0, .int x1, .int x2, .int x3, .int x4, .int x5, .null, .null, .null, .null] [] H Q = jm_c S 176 [.int x5, .int (0 : Int32), .int (2 : Int32)] H (fun v G => jm_w S 8 241 26 [.ref r0, .int x1, .int x2, .int x3, .int x4, .int x5, .null, .null, .null, .null] (v.toList ++ []) G Q) := (js1 at241_19 rfl rfl rfl).trans ((jsci at241_21 rfl rfl).trans ((jsci at241_22 rfl rfl).trans (jscall (H := H) (as := [.int x5, .int (0 : Int32), .int (2 : Int32)]) (q := []) at241_23 rfl rv241i_218 (jscut rfl rfl rfl (Nat.le_of_ble_eq_true rfl)) rfl (Nat.le_of_ble_eq_true rfl) rfl rfl)))
theorem at241_26 : jm_at 241 26 = some (.ifCond .ne 5) := rfl
theorem u241_26 {S : Option (Nat × (Nat → Int32))} {H : jm_H} {Q : Option Value → jm_H → Prop} {r0 : Nat} {x1 x2 x3 x4 x5 p0 : Int32} : jm_w S 8 241 26 [.ref r0, .int x1, .int x2, .int x3, .int x4, .int x5, .null, .null, .null, .null] [.int p0] H Q = if ¬ p0 = 0 then jm_w S 8 241 31 [.ref r0, .int x1, .int x2, .int x3, .int x4, .int x5, .null, .null, .null, .null] [] H Q else jm_w S 8 241 29 [.ref r0, .int x1, .int x2, .int x3, .int x4, .int x5, .null, .null, .null, .null] [] H Q := jsif (P := ¬ p0 = 0) at241_26 rfl rfl
theorem at241_29 : jm_at 241 29 = some (.iconst (-1)) := rfl
theorem at241_30 : jm_at 241 30 = some (.ireturn) := rfl
theorem u241_29 {S : Option (Nat × (Nat → Int32))} {H : jm_H} {Q : Option Value → jm_H → Prop} {r0 : Nat} {x1 x2 x3 x4 x5 : Int32} : jm_w S 8 241 29 [.ref r0, .int x1, .int x2, .int x3, .int x4, .int x5, .null, .null, .null, .null] [] H Q = Q (some (.int (-1 : Int32))) H := (jsci at241_29 rfl rfl).trans (jsret_i at241_30 rfl)
theorem at241_31 : jm_at 241 31 = some (.iconst 0) := rfl
theorem at241_32 : jm_at 241 32 = some (.istore 6) := rfl
theorem u241_31 {S : Option (Nat × (Nat → Int32))} {H : jm_H} {Q : Option Value → jm_H → Prop} {r0 : Nat} {x1 x2 x3 x4 x5 : Int32} : jm_w S 8 241 31 [.ref r0, .int x1, .int x2, .int x3, .int x4, .int x5, .null, .null, .null, .null] [] H Q = jm_w S 8 241 34 [.ref r0, .int x1, .int x2, .int x3, .int x4, .int x5, .int (0 : Int32), .null, .null, .null] [] H Q := (jsci at241_31 rfl rfl).trans (js1 at241_32 rfl rfl rfl)
theorem at241_34 : jm_at 241 34 = some (.iload 6) := rfl
theorem at241_36 : jm_at 241 36 = some (.iconst 1) := rfl
theorem at241_37 : jm_at 241 37 = some (.iload_n 1) := rfl
theorem at241_38 : jm_at 241 38 = some (.ishl) := rfl
theorem at241_39 : jm_at 241 39 = some (.if_icmp .ge 17) := rfl
theorem u241_34 {S : Option (Nat × (Nat → Int32))} {H : jm_H} {Q : Option Value → jm_H → Prop} {r0 : Nat} {x1 x2 x3 x4 x5 x6 : Int32} : jm_w S 8 241 34 [.ref r0, .int x1, .int x2, .int x3, .int x4, .int x5, .int x6, .null, .null, .null] [] H Q = if ((1 : Int32) <<< (x1 &&& 31)) ≤ x6 then jm_w S 8 241 56 [.ref r0, .int x1, .int x2, .int x3, .int x4, .int x5, .int x6, .null, .null, .null] [] H Q else jm_w S 8 241 42 [.ref r0, .int x1, .int x2, .int x3, .int x4, .int x5, .int x6, .null, .null, .null] [] H Q := (js1 at241_34 rfl rfl rfl).trans ((jsci at241_36 rfl rfl).trans ((js1 at241_37 rfl rfl rfl).trans ((js0 at241_38 rfl rfl rfl).trans (jsif (P := ((1 : Int32) <<< (x1 &&& 31)) ≤ x6) at241_39 rfl rfl))))
theorem at241_42 : jm_at 241 42 = some (.aload_n 0) := rfl
theorem at241_43 : jm_at 241 43 = some (.getfield 101) := rfl
theorem rv241g_101 : jm_rv 241 (.getfield 101) = (0, 12, 61, 0) := rfl
theorem at241_46 : jm_at 241 46 = some (.iload 6) := rfl
theorem at241_48 : jm_at 241 48 = some (.iconst (-1)) := rfl
theorem at241_49 : jm_at 241 49 = some (.iastore) := rfl
theorem at241_50 : jm_at 241 50 = some (.iinc 6 1) := rfl
theorem at241_53 : jm_at 241 53 = some (.goto (-19)) := rfl
theorem u241_42 {S : Option (Nat × (Nat → Int32))} {H : jm_H} {Q : Option Value → jm_H → Prop} {r0 : Nat} {x1 x2 x3 x4 x5 x6 : Int32} (h0 : jm_tg H r0 = 13) (h1 : ¬ jm_R H r0 61 = 0) (h2 : ¬ (x6 < 0 ∨ jm_ln H (jm_R H r0 61) ≤ Int32.toNatClampNeg x6)) (h3 : jm_tg H (jm_R H r0 61) = 100) : jm_w S 8 241 42 [.ref r0, .int x1, .int x2, .int x3, .int x4, .int x5, .int x6, .null, .null, .null] [] H Q = jm_w S 8 241 34 [.ref r0, .int x1, .int x2, .int x3, .int x4, .int x5, .int (x6 + 1), .null, .null, .null] [] (jm_pI H (jm_R H r0 61) (Int32.toNatClampNeg x6) (-1 : Int32)) Q := (js1 at241_42 rfl rfl rfl).trans ((jsgR (H := H) at241_43 rv241g_101 rfl h0 h1 rfl).trans ((js1 at241_46 rfl rfl rfl).trans ((jsci at241_48 rfl rfl).trans ((jsias (H := H) at241_49 h3 h2 rfl).trans ((jsinc at241_50 rfl rfl rfl).trans (js2 at241_53 rfl rfl))))))
theorem at241_56 : jm_at 241 56 = some (.iconst 0) := rfl
theorem at241_57 : jm_at 241 57 = some (.istore 6) := rfl
theorem at241_59 : jm_at 241 59 = some (.iload 4) := rfl
theorem at241_61 : jm_at 241 61 = some (.istore 7) := rfl
theorem at241_63 : jm_at 241 63 = some (.iconst 1) := rfl
theorem at241_64 : jm_at 241 64 = some (.istore 8) := rfl
theorem at241_66 : jm_at 241 66 = some (.iconst 0) := rfl
theorem at241_67 : jm_at 241 67 = some (.istore 9) := rfl
theorem u241_56 {S : Option (Nat × (Nat → Int32))} {H : jm_H} {Q : Option Value → jm_H → Prop} {r0 : Nat} {x1 x2 x3 x4 x5 x6 : Int32} : jm_w S 8 241 56 [.ref r0, .int x1, .int x2, .int x3, .int x4, .int x5, .int x6, .null, .null, .null] [] H Q = jm_w S 8 241 69 [.ref r0, .int x1, .int x2, .int x3, .int x4, .int x5, .int (0 : Int32), .int x4, .int (1 : Int32), .int (0 : Int32)] [] H Q := (jsci at241_56 rfl rfl).trans ((js1 at241_57 rfl rfl rfl).trans ((js1 at241_59 rfl rfl rfl).trans ((js1 at241_61 rfl rfl rfl).trans ((jsci at241_63 rfl rfl).trans ((js1 at241_64 rfl rfl rfl).trans ((jsci at241_66 rfl rfl).trans (js1 at241_67 rfl rfl rfl)))))))
theorem at241_69 : jm_at 241 69 = some (.iload 8) := rfl
theorem at241_71 : jm_at 241 71 = some (.ifCond .eq 86) := rfl
theorem u241_69 {S : Option (Nat × (Nat → Int32))} {H : jm_H} {Q : Option Value → jm_H → Prop} {r0 : Nat} {x1 x2 x3 x4 x5 x6 x7 x8 x9 : Int32} : jm_w S 8 241 69 [.ref r0, .int x1, .int x2, .int x3, .int x4, .int x5, .int x6, .int x7, .int x8, .int x9] [] H Q = if x8 = 0 then jm_w S 8 241 157 [.ref r0, .int x1, .int x2, .int x3, .int x4, .int x5, .int x6, .int x7, .int x8, .int x9] [] H Q else jm_w S 8 241 74 [.ref r0, .int x1, .int x2, .int x3, .int x4, .int x5, .int x6, .int x7, .int x8, .int x9] [] H Q := (js1 at241_69 rfl rfl rfl).trans (jsif (P := x8 = 0) at241_71 rfl rfl)
theorem at241_74 : jm_at 241 74 = some (.aload_n 0) := rfl
theorem at241_75 : jm_at 241 75 = some (.getfield 101) := rfl
theorem at241_78 : jm_at 241 78 = some (.iload 7) := rfl
theorem at241_80 : jm_at 241 80 = some (.iload 6) := rfl
theorem at241_82 : jm_at 241 82 = some (.iastore) := rfl
theorem at241_83 : jm_at 241 83 = some (.aload_n 0) := rfl
theorem at241_84 : jm_at 241 84 = some (.iload_n 1) := rfl
theorem at241_85 : jm_at 241 85 = some (.iload_n 2) := rfl
theorem at241_86 : jm_at 241 86 = some (.iload_n 3) := rfl
theorem at241_87 : jm_at 241 87 = some (.iload 7) := rfl
theorem at241_89 : jm_at 241 89 = some (.invokevirtual 437) := rfl
theorem rv241i_437 : jm_rv 241 (.invokevirtual 437) = (2, 242, 0, 0) := rfl
theorem u241_74 {S : Option (Nat × (Nat → Int32))} {H : jm_H} {Q : Option Value → jm_H → Prop} {r0 : Nat} {x1 x2 x3 x4 x5 x6 x7 x8 x9 : Int32} (h0 : jm_tg H r0 = 13) (h1 : ¬ jm_R H r0 61 = 0) (h2 : ¬ (x7 < 0 ∨ jm_ln H (jm_R H r0 61) ≤ Int32.toNatClampNeg x7)) (h3 : jm_tg H (jm_R H r0 61) = 100) : jm_w S 8 241 74 [.ref r0, .int x1, .int x2, .int x3, .int x4, .int x5, .int x6, .int x7, .int x8, .int x9] [] H Q = jm_c S 242 [.ref r0, .int x1, .int x2, .int x3, .int x7] (jm_pI H (jm_R H r0 61) (Int32.toNatClampNeg x7) x6) (fun v G => jm_w S 8 241 92 [.ref r0, .int x1, .int x2, .int x3, .int x4, .int x5, .int x6, .int x7, .int x8, .int x9] (v.toList ++ []) G Q) := (js1 at241_74 rfl rfl rfl).trans ((jsgR (H := H) at241_75 rv241g_101 rfl h0 h1 rfl).trans ((js1 at241_78 rfl rfl rfl).trans ((js1 at241_80 rfl rfl rfl).trans ((jsias (H := H) at241_82 h3 h2 rfl).trans ((js1 at241_83 rfl rfl rfl).trans ((js1 at241_84 rfl rfl rfl).trans ((js1 at241_85 rfl rfl rfl).trans ((js1 at241_86 rfl rfl rfl).trans ((js1 at241_87 rfl rfl rfl).trans (jscall (H := (jm_pI H (jm_R H r0 61) (Int32.toNatClampNeg x7) x6)) (as := [.ref r0, .int x1, .int x2, .int x3, .int x7]) (q := []) at241_89 rfl rv241i_437 (jscutV rfl rfl rfl (Nat.le_of_ble_eq_true rfl) rfl h0) rfl (Nat.le_of_ble_eq_true rfl) rfl rfl))))))))))
theorem at241_92 : jm_at 241 92 = some (.istore 7) := rfl
theorem at241_94 : jm_at 241 94 = some (.iinc 6 1) := rfl
theorem at241_97 : jm_at 241 97 = some (.iload_n 1) := rfl
theorem at241_98 : jm_at 241 98 = some (.iload 7) := rfl
theorem at241_100 : jm_at 241 100 = some (.invokestatic 276) := rfl
theorem rv241i_276 : jm_rv 241 (.invokestatic 276) = (1, 204, 0, 0) := rfl
theorem u241_92 {S : Option (Nat × (Nat → Int32))} {H : jm_H} {Q : Option Value → jm_H → Prop} {r0 : Nat} {x1 x2 x3 x4 x5 x6 x7 x8 x9 p0 : Int32} : jm_w S 8 241 92 [.ref r0, .int x1, .int x2, .int x3, .int x4, .int x5, .int x6, .int x7, .int x8, .int x9] [.int p0] H Q = jm_c S 204 [.int x1, .int p0] H (fun v G => jm_w S 8 241 103 [.ref r0, .int x1, .int x2, .int x3, .int x4, .int x5, .int (x6 + 1), .int p0, .int x8, .int x9] (v.toList ++ []) G Q) := (js1 at241_92 rfl rfl rfl).trans ((jsinc at241_94 rfl rfl rfl).trans ((js1 at241_97 rfl rfl rfl).trans ((js1 at241_98 rfl rfl rfl).trans (jscall (H := H) (as := [.int x1, .int p0]) (q := []) at241_100 rfl rv241i_276 (jscut rfl rfl rfl (Nat.le_of_ble_eq_true rfl)) rfl (Nat.le_of_ble_eq_true rfl) rfl rfl))))
theorem at241_103 : jm_at 241 103 = some (.ifCond .ne 17) := rfl
theorem u241_103 {S : Option (Nat × (Nat → Int32))} {H : jm_H} {Q : Option Value → jm_H → Prop} {r0 : Nat} {x1 x2 x3 x4 x5 x6 x7 x8 x9 p0 : Int32} : jm_w S 8 241 103 [.ref r0, .int x1, .int x2, .int x3, .int x4, .int x5, .int x6, .int x7, .int x8, .int x9] [.int p0] H Q = if ¬ p0 = 0 then jm_w S 8 241 120 [.ref r0, .int x1, .int x2, .int x3, .int x4, .int x5, .int x6, .int x7, .int x8, .int x9] [] H Q else jm_w S 8 241 106 [.ref r0, .int x1, .int x2, .int x3, .int x4, .int x5, .int x6, .int x7, .int x8, .int x9] [] H Q := jsif (P := ¬ p0 = 0) at241_103 rfl rfl
theorem at241_106 : jm_at 241 106 = some (.aload_n 0) := rfl
theorem at241_107 : jm_at 241 107 = some (.getfield 101) := rfl
theorem at241_110 : jm_at 241 110 = some (.iload 7) := rfl
theorem at241_112 : jm_at 241 112 = some (.iaload) := rfl
theorem at241_113 : jm_at 241 113 = some (.ifCond .ge 7) := rfl
theorem u241_106 {S : Option (Nat × (Nat → Int32))} {H : jm_H} {Q : Option Value → jm_H → Prop} {r0 : Nat} {x1 x2 x3 x4 x5 x6 x7 x8 x9 : Int32} (h0 : jm_tg H r0 = 13) (h1 : ¬ jm_R H r0 61 = 0) (h2 : ¬ (x7 < 0 ∨ jm_ln H (jm_R H r0 61) ≤ Int32.toNatClampNeg x7)) (h3 : ¬ (jm_R H r0 61) = 1) (h4 : jm_tg H (jm_R H r0 61) = 100) : jm_w S 8 241 106 [.ref r0, .int x1, .int x2, .int x3, .int x4, .int x5, .int x6, .int x7, .int x8, .int x9] [] H Q = if 0 ≤ (jm_I H (jm_R H r0 61) (Int32.toNatClampNeg x7)) then jm_w S 8 241 120 [.ref r0, .int x1, .int x2, .int x3, .int x4, .int x5, .int x6, .int x7, .int x8, .int x9] [] H Q else jm_w S 8 241 116 [.ref r0, .int x1, .int x2, .int x3, .int x4, .int x5, .int x6, .int x7, .int x8, .int x9] [] H Q := (js1 at241_106 rfl rfl rfl).trans ((jsgR (H := H) at241_107 rv241g_101 rfl h0 h1 rfl).trans ((js1 at241_110 rfl rfl rfl).trans ((jsial (H := H) at241_112 h3 h4 h2 rfl).trans (jsif (P := 0 ≤ (jm_I H (jm_R H r0 61) (Int32.toNatClampNeg x7))) at241_113 rfl rfl))))
theorem at241_116 : jm_at 241 116 = some (.iconst 1) := rfl
theorem at241_117 : jm_at 241 117 = some (.goto 4) := rfl
theorem u241_116 {S : Option (Nat × (Nat → Int32))} {H : jm_H} {Q : Option Value → jm_H → Prop} {r0 : Nat} {x1 x2 x3 x4 x5 x6 x7 x8 x9 : Int32} : jm_w S 8 241 116 [.ref r0, .int x1, .int x2, .int x3, .int x4, .int x5, .int x6, .int x7, .int x8, .int x9] [] H Q = jm_w S 8 241 121 [.ref r0, .int x1, .int x2, .int x3, .int x4, .int x5, .int x6, .int x7, .int x8, .int x9] [.int (1 : Int32)] H Q := (jsci at241_116 rfl rfl).trans (js2 at241_117 rfl rfl)
theorem at241_120 : jm_at 241 120 = some (.iconst 0) := rfl
theorem u241_120 {S : Option (Nat × (Nat → Int32))} {H : jm_H} {Q : Option Value → jm_H → Prop} {r0 : Nat} {x1 x2 x3 x4 x5 x6 x7 x8 x9 : Int32} : jm_w S 8 241 120 [.ref r0, .int x1, .int x2, .int x3, .int x4, .int x5, .int x6, .int x7, .int x8, .int x9] [] H Q = jm_w S 8 241 121 [.ref r0, .int x1, .int x2, .int x3, .int x4, .int x5, .int x6, .int x7, .int x8, .int x9] [.int (0 : Int32)] H Q := jsci at241_120 rfl rfl
theorem at241_121 : jm_at 241 121 = some (.istore 8) := rfl
theorem at241_123 : jm_at 241 123 = some (.iload_n 1) := rfl
theorem at241_124 : jm_at 241 124 = some (.iload 7) := rfl
theorem at241_126 : jm_at 241 126 = some (.invokestatic 276) := rfl
theorem u241_121 {S : Option (Nat × (Nat → Int32))} {H : jm_H} {Q : Option Value → jm_H → Prop} {r0 : Nat} {x1 x2 x3 x4 x5 x6 x7 x8 x9 p0 : Int32} : jm_w S 8 241 121 [.ref r0, .int x1, .int x2, .int x3, .int x4, .int x5, .int x6, .int x7, .int x8, .int x9] [.int p0] H Q = jm_c S 204 [.int x1, .int x7] H (fun v G => jm_w S 8 241 129 [.ref r0, .int x1, .int x2, .int x3, .int x4, .int x5, .int x6, .int x7, .int p0, .int x9] (v.toList ++ []) G Q) := (js1 at241_121 rfl rfl rfl).trans ((js1 at241_123 rfl rfl rfl).trans ((js1 at241_124 rfl rfl rfl).trans (jscall (H := H) (as := [.int x1, .int x7]) (q := []) at241_126 rfl rv241i_276 (jscut rfl rfl rfl (Nat.le_of_ble_eq_true rfl)) rfl (Nat.le_of_ble_eq_true rfl) rfl rfl)))
theorem at241_129 : jm_at 241 129 = some (.ifCond .ne (-60)) := rfl
theorem u241_129 {S : Option (Nat × (Nat → Int32))} {H : jm_H} {Q : Option Value → jm_H → Prop} {r0 : Nat} {x1 x2 x3 x4 x5 x6 x7 x8 x9 p0 : Int32} : jm_w S 8 241 129 [.ref r0, .int x1, .int x2, .int x3, .int x4, .int x5, .int x6, .int x7, .int x8, .int x9] [.int p0] H Q = if ¬ p0 = 0 then jm_w S 8 241 69 [.ref r0, .int x1, .int x2, .int x3, .int x4, .int x5, .int x6, .int x7, .int x8, .int x9] [] H Q else jm_w S 8 241 132 [.ref r0, .int x1, .int x2, .int x3, .int x4, .int x5, .int x6, .int x7, .int x8, .int x9] [] H Q := jsif (P := ¬ p0 = 0) at241_129 rfl rfl
theorem at241_132 : jm_at 241 132 = some (.aload_n 0) := rfl
theorem at241_133 : jm_at 241 133 = some (.getfield 101) := rfl
theorem at241_136 : jm_at 241 136 = some (.iload 7) := rfl
theorem at241_138 : jm_at 241 138 = some (.iaload) := rfl
theorem at241_139 : jm_at 241 139 = some (.ifCond .lt (-70)) := rfl
theorem u241_132 {S : Option (Nat × (Nat → Int32))} {H : jm_H} {Q : Option Value → jm_H → Prop} {r0 : Nat} {x1 x2 x3 x4 x5 x6 x7 x8 x9 : Int32} (h0 : jm_tg H r0 = 13) (h1 : ¬ jm_R H r0 61 = 0) (h2 : ¬ (x7 < 0 ∨ jm_ln H (jm_R H r0 61) ≤ Int32.toNatClampNeg x7)) (h3 : ¬ (jm_R H r0 61) = 1) (h4 : jm_tg H (jm_R H r0 61) = 100) : jm_w S 8 241 132 [.ref r0, .int x1, .int x2, .int x3, .int x4, .int x5, .int x6, .int x7, .int x8, .int x9] [] H Q = if (jm_I H (jm_R H r0 61) (Int32.toNatClampNeg x7)) < 0 then jm_w S 8 241 69 [.ref r0, .int x1, .int x2, .int x3, .int x4, .int x5, .int x6, .int x7, .int x8, .int x9] [] H Q else jm_w S 8 241 142 [.ref r0, .int x1, .int x2, .int x3, .int x4, .int x5, .int x6, .int x7, .int x8, .int x9] [] H Q := (js1 at241_132 rfl rfl rfl).trans ((jsgR (H := H) at241_133 rv241g_101 rfl h0 h1 rfl).trans ((js1 at241_136 rfl rfl rfl).trans ((jsial (H := H) at241_138 h3 h4 h2 rfl).trans (jsif (P := (jm_I H (jm_R H r0 61) (Int32.toNatClampNeg x7)) < 0) at241_139 rfl rfl))))
theorem at241_142 : jm_at 241 142 = some (.iload 6) := rfl
theorem at241_144 : jm_at 241 144 = some (.aload_n 0) := rfl
theorem at241_145 : jm_at 241 145 = some (.getfield 101) := rfl
theorem at241_148 : jm_at 241 148 = some (.iload 7) := rfl
theorem at241_150 : jm_at 241 150 = some (.iaload) := rfl
theorem at241_151 : jm_at 241 151 = some (.isub) := rfl
theorem at241_152 : jm_at 241 152 = some (.istore 9) := rfl
theorem at241_154 : jm_at 241 154 = some (.goto (-85)) := rfl
theorem u241_142 {S : Option (Nat × (Nat → Int32))} {H : jm_H} {Q : Option Value → jm_H → Prop} {r0 : Nat} {x1 x2 x3 x4 x5 x6 x7 x8 x9 : Int32} (h0 : jm_tg H r0 = 13) (h1 : ¬ jm_R H r0 61 = 0) (h2 : ¬ (x7 < 0 ∨ jm_ln H (jm_R H r0 61) ≤ Int32.toNatClampNeg x7)) (h3 : ¬ (jm_R H r0 61) = 1) (h4 : jm_tg H (jm_R H r0 61) = 100) : jm_w S 8 241 142 [.ref r0, .int x1, .int x2, .int x3, .int x4, .int x5, .int x6, .int x7, .int x8, .int x9] [] H Q = jm_w S 8 241 69 [.ref r0, .int x1, .int x2, .int x3, .int x4, .int x5, .int x6, .int x7, .int x8, .int (x6 - (jm_I H (jm_R H r0 61) (Int32.toNatClampNeg x7)))] [] H Q := (js1 at241_142 rfl rfl rfl).trans ((js1 at241_144 rfl rfl rfl).trans ((jsgR (H := H) at241_145 rv241g_101 rfl h0 h1 rfl).trans ((js1 at241_148 rfl rfl rfl).trans ((jsial (H := H) at241_150 h3 h4 h2 rfl).trans ((js0 at241_151 rfl rfl rfl).trans ((js1 at241_152 rfl rfl rfl).trans (js2 at241_154 rfl rfl)))))))
theorem at241_157 : jm_at 241 157 = some (.iload 5) := rfl
theorem at241_159 : jm_at 241 159 = some (.ifCond .ne 8) := rfl
theorem u241_157 {S : Option (Nat × (Nat → Int32))} {H : jm_H} {Q : Option Value → jm_H → Prop} {r0 : Nat} {x1 x2 x3 x4 x5 x6 x7 x8 x9 : Int32} : jm_w S 8 241 157 [.ref r0, .int x1, .int x2, .int x3, .int x4, .int x5, .int x6, .int x7, .int x8, .int x9] [] H Q = if ¬ x5 = 0 then jm_w S 8 241 167 [.ref r0, .int x1, .int x2, .int x3, .int x4, .int x5, .int x6, .int x7, .int x8, .int x9] [] H Q else jm_w S 8 241 162 [.ref r0, .int x1, .int x2, .int x3, .int x4, .int x5, .int x6, .int x7, .int x8, .int x9] [] H Q := (js1 at241_157 rfl rfl rfl).trans (jsif (P := ¬ x5 = 0) at241_159 rfl rfl)
theorem at241_162 : jm_at 241 162 = some (.iload 6) := rfl
theorem at241_164 : jm_at 241 164 = some (.goto 16) := rfl
theorem u241_162 {S : Option (Nat × (Nat → Int32))} {H : jm_H} {Q : Option Value → jm_H → Prop} {r0 : Nat} {x1 x2 x3 x4 x5 x6 x7 x8 x9 : Int32} : jm_w S 8 241 162 [.ref r0, .int x1, .int x2, .int x3, .int x4, .int x5, .int x6, .int x7, .int x8, .int x9] [] H Q = jm_w S 8 241 180 [.ref r0, .int x1, .int x2, .int x3, .int x4, .int x5, .int x6, .int x7, .int x8, .int x9] [.int x6] H Q := (js1 at241_162 rfl rfl rfl).trans (js2 at241_164 rfl rfl)
theorem at241_167 : jm_at 241 167 = some (.iload 5) := rfl
theorem at241_169 : jm_at 241 169 = some (.iconst 1) := rfl
theorem at241_170 : jm_at 241 170 = some (.if_icmp .ne 8) := rfl
theorem u241_167 {S : Option (Nat × (Nat → Int32))} {H : jm_H} {Q : Option Value → jm_H → Prop} {r0 : Nat} {x1 x2 x3 x4 x5 x6 x7 x8 x9 : Int32} : jm_w S 8 241 167 [.ref r0, .int x1, .int x2, .int x3, .int x4, .int x5, .int x6, .int x7, .int x8, .int x9] [] H Q = if ¬ x5 = (1 : Int32) then jm_w S 8 241 178 [.ref r0, .int x1, .int x2, .int x3, .int x4, .int x5, .int x6, .int x7, .int x8, .int x9] [] H Q else jm_w S 8 241 173 [.ref r0, .int x1, .int x2, .int x3, .int x4, .int x5, .int x6, .int x7, .int x8, .int x9] [] H Q := (js1 at241_167 rfl rfl rfl).trans ((jsci at241_169 rfl rfl).trans (jsif (P := ¬ x5 = (1 : Int32)) at241_170 rfl rfl))
theorem at241_173 : jm_at 241 173 = some (.iload 7) := rfl
theorem at241_175 : jm_at 241 175 = some (.goto 5) := rfl
theorem u241_173 {S : Option (Nat × (Nat → Int32))} {H : jm_H} {Q : Option Value → jm_H → Prop} {r0 : Nat} {x1 x2 x3 x4 x5 x6 x7 x8 x9 : Int32} : jm_w S 8 241 173 [.ref r0, .int x1, .int x2, .int x3, .int x4, .int x5, .int x6, .int x7, .int x8, .int x9] [] H Q = jm_w S 8 241 180 [.ref r0, .int x1, .int x2, .int x3, .int x4, .int x5, .int x6, .int x7, .int x8, .int x9] [.int x7] H Q := (js1 at241_173 rfl rfl rfl).trans (js2 at241_175 rfl rfl)
theorem at241_178 : jm_at 241 178 = some (.iload 9) := rfl
theorem u241_178 {S : Option (Nat × (Nat → Int32))} {H : jm_H} {Q : Option Value → jm_H → Prop} {r0 : Nat} {x1 x2 x3 x4 x5 x6 x7 x8 x9 : Int32} : jm_w S 8 241 178 [.ref r0, .int x1, .int x2, .int x3, .int x4, .int x5, .int x6, .int x7, .int x8, .int x9] [] H Q = jm_w S 8 241 180 [.ref r0, .int x1, .int x2, .int x3, .int x4, .int x5, .int x6, .int x7, .int x8, .int x9] [.int x9] H Q := js1 at241_178 rfl rfl rfl
theorem at241_180 : jm_at 241 180 = some (.ireturn) := rfl
theorem u241_180 {S : Option (Nat × (Nat → Int32))} {H : jm_H} {Q : Option Value → jm_H → Prop} {r0 : Nat} {x1 x2 x3 x4 x5 x6 x7 x8 x9 p0 : Int32} : jm_w S 8 241 180 [.ref r0, .int x1, .int x2, .int x3, .int x4, .int x5, .int x6, .int x7, .int x8, .int x9] [.int p0] H Q = Q (some (.int p0)) H := jsret_i at241_180 rfl
theorem en241 {S : Option (Nat × (Nat → Int32))} {H : jm_H} {Q : Option Value → jm_H → Prop} {r0 : Nat} {x1 x2 x3 x4 x5 : Int32} : jm_c S 241 [.ref r0, .int x1, .int x2, .int x3, .int x4, .int x5] H Q = jm_w S 8 241 0 [.ref r0, .int x1, .int x2, .int x3, .int x4, .int x5, .null, .null, .null, .null] [] H Q := rfl
theorem at242_0 : jm_at 242 0 = some (.aload_n 0) := rfl
theorem at242_1 : jm_at 242 1 = some (.iload_n 1) := rfl
theorem at242_2 : jm_at 242 2 = some (.iload_n 2) := rfl
theorem at242_3 : jm_at 242 3 = some (.iload 4) := rfl
theorem at242_5 : jm_at 242 5 = some (.aload_n 0) := rfl
theorem at242_6 : jm_at 242 6 = some (.iload_n 1) := rfl
theorem at242_7 : jm_at 242 7 = some (.iload_n 2) := rfl
theorem at242_8 : jm_at 242 8 = some (.iload_n 3) := rfl
theorem at242_9 : jm_at 242 9 = some (.iload 4) := rfl
theorem at242_11 : jm_at 242 11 = some (.iconst 3) := rfl
theorem at242_12 : jm_at 242 12 = some (.invokevirtual 269) := rfl
theorem rv242i_269 : jm_rv 242 (.invokevirtual 269) = (2, 209, 0, 0) := rfl
theorem u242_0 {S : Option (Nat × (Nat → Int32))} {H : jm_H} {Q : Option Value → jm_H → Prop} {r0 : Nat} {x1 x2 x3 x4 : Int32} (h0 : jm_tg H r0 = 13) : jm_w S 7 242 0 [.ref r0, .int x1, .int x2, .int x3, .int x4, .null] [] H Q = jm_c S 209 [.ref r0, .int x1, .int x2, .int x3, .int x4, .int (3 : Int32)] H (fun v G => jm_w S 7 242 15 [.ref r0, .int x1, .int x2, .int x3, .int x4, .null] (v.toList ++ [.int x4, .int x2, .int x1, .ref r0]) G Q) := (js1 at242_0 rfl rfl rfl).trans ((js1 at242_1 rfl rfl rfl).trans ((js1 at242_2 rfl rfl rfl).trans ((js1 at242_3 rfl rfl rfl).trans ((js1 at242_5 rfl rfl rfl).trans ((js1 at242_6 rfl rfl rfl).trans ((js1 at242_7 rfl rfl rfl).trans ((js1 at242_8 rfl rfl rfl).trans ((js1 at242_9 rfl rfl rfl).trans ((jsci at242_11 rfl rfl).trans (jscall (H := H) (as := [.ref r0, .int x1, .int x2, .int x3, .int x4, .int (3 : Int32)]) (q := [.int x4, .int x2, .int x1, .ref r0]) at242_12 rfl rv242i_269 (jscutV rfl rfl rfl (Nat.le_of_ble_eq_true rfl) rfl h0) rfl (Nat.le_of_ble_eq_true rfl) rfl rfl))))))))))
theorem at242_15 : jm_at 242 15 = some (.iconst 0) := rfl
theorem at242_16 : jm_at 242 16 = some (.invokevirtual 269) := rfl
theorem u242_15 {S : Option (Nat × (Nat → Int32))} {H : jm_H} {Q : Option Value → jm_H → Prop} {r0 o0 : Nat} {x1 x2 x3 x4 p1 p2 p3 p4 : Int32} (h0 : jm_tg H o0 = 13) : jm_w S 7 242 15 [.ref r0, .int x1, .int x2, .int x3, .int x4, .null] [.int p4, .int p3, .int p2, .int p1, .ref o0] H Q = jm_c S 209 [.ref o0, .int p1, .int p2, .int p3, .int p4, .int (0 : Int32)] H (fun v G => jm_w S 7 242 19 [.ref r0, .int x1, .int x2, .int x3, .int x4, .null] (v.toList ++ []) G Q) := (jsci at242_15 rfl rfl).trans (jscall (H := H) (as := [.ref o0, .int p1, .int p2, .int p3, .int p4, .int (0 : Int32)]) (q := []) at242_16 rfl rv242i_269 (jscutV rfl rfl rfl (Nat.le_of_ble_eq_true rfl) rfl h0) rfl (Nat.le_of_ble_eq_true rfl) rfl rfl)
theorem at242_19 : jm_at 242 19 = some (.istore 5) := rfl
theorem at242_21 : jm_at 242 21 = some (.iload_n 1) := rfl
theorem at242_22 : jm_at 242 22 = some (.iload 5) := rfl
theorem at242_24 : jm_at 242 24 = some (.invokestatic 276) := rfl
theorem rv242i_276 : jm_rv 242 (.invokestatic 276) = (1, 204, 0, 0) := rfl
theorem u242_19 {S : Option (Nat × (Nat → Int32))} {H : jm_H} {Q : Option Value → jm_H → Prop} {r0 : Nat} {x1 x2 x3 x4 p0 : Int32} : jm_w S 7 242 19 [.ref r0, .int x1, .int x2, .int x3, .int x4, .null] [.int p0] H Q = jm_c S 204 [.int x1, .int p0] H (fun v G => jm_w S 7 242 27 [.ref r0, .int x1, .int x2, .int x3, .int x4, .int p0] (v.toList ++ []) G Q) := (js1 at242_19 rfl rfl rfl).trans ((js1 at242_21 rfl rfl rfl).trans ((js1 at242_22 rfl rfl rfl).trans (jscall (H := H) (as := [.int x1, .int p0]) (q := []) at242_24 rfl rv242i_276 (jscut rfl rfl rfl (Nat.le_of_ble_eq_true rfl)) rfl (Nat.le_of_ble_eq_true rfl) rfl rfl)))
theorem at242_27 : jm_at 242 27 = some (.ifCond .ne 8) := rfl
theorem u242_27 {S : Option (Nat × (Nat → Int32))} {H : jm_H} {Q : Option Value → jm_H → Prop} {r0 : Nat} {x1 x2 x3 x4 x5 p0 : Int32} : jm_w S 7 242 27 [.ref r0, .int x1, .int x2, .int x3, .int x4, .int x5] [.int p0] H Q = if ¬ p0 = 0 then jm_w S 7 242 35 [.ref r0, .int x1, .int x2, .int x3, .int x4, .int x5] [] H Q else jm_w S 7 242 30 [.ref r0, .int x1, .int x2, .int x3, .int x4, .int x5] [] H Q := jsif (P := ¬ p0 = 0) at242_27 rfl rfl
theorem at242_30 : jm_at 242 30 = some (.iload 5) := rfl
theorem at242_32 : jm_at 242 32 = some (.ifCond .ne 8) := rfl
theorem u242_30 {S : Option (Nat × (Nat → Int32))} {H : jm_H} {Q : Option Value → jm_H → Prop} {r0 : Nat} {x1 x2 x3 x4 x5 : Int32} : jm_w S 7 242 30 [.ref r0, .int x1, .int x2, .int x3, .int x4, .int x5] [] H Q = if ¬ x5 = 0 then jm_w S 7 242 40 [.ref r0, .int x1, .int x2, .int x3, .int x4, .int x5] [] H Q else jm_w S 7 242 35 [.ref r0, .int x1, .int x2, .int x3, .int x4, .int x5] [] H Q := (js1 at242_30 rfl rfl rfl).trans (jsif (P := ¬ x5 = 0) at242_32 rfl rfl)
theorem at242_35 : jm_at 242 35 = some (.iload 5) := rfl
theorem at242_37 : jm_at 242 37 = some (.goto 14) := rfl
theorem u242_35 {S : Option (Nat × (Nat → Int32))} {H : jm_H} {Q : Option Value → jm_H → Prop} {r0 : Nat} {x1 x2 x3 x4 x5 : Int32} : jm_w S 7 242 35 [.ref r0, .int x1, .int x2, .int x3, .int x4, .int x5] [] H Q = jm_w S 7 242 51 [.ref r0, .int x1, .int x2, .int x3, .int x4, .int x5] [.int x5] H Q := (js1 at242_35 rfl rfl rfl).trans (js2 at242_37 rfl rfl)
theorem at242_40 : jm_at 242 40 = some (.aload_n 0) := rfl
theorem at242_41 : jm_at 242 41 = some (.iload_n 1) := rfl
theorem at242_42 : jm_at 242 42 = some (.iload_n 2) := rfl
theorem at242_43 : jm_at 242 43 = some (.iload 5) := rfl
theorem at242_45 : jm_at 242 45 = some (.iload_n 1) := rfl
theorem at242_46 : jm_at 242 46 = some (.iload_n 2) := rfl
theorem at242_47 : jm_at 242 47 = some (.iconst 1) := rfl
theorem at242_48 : jm_at 242 48 = some (.invokevirtual 397) := rfl
theorem rv242i_397 : jm_rv 242 (.invokevirtual 397) = (2, 227, 0, 0) := rfl
theorem u242_40 {S : Option (Nat × (Nat → Int32))} {H : jm_H} {Q : Option Value → jm_H → Prop} {r0 : Nat} {x1 x2 x3 x4 x5 : Int32} (h0 : jm_tg H r0 = 13) : jm_w S 7 242 40 [.ref r0, .int x1, .int x2, .int x3, .int x4, .int x5] [] H Q = jm_c S 227 [.ref r0, .int x1, .int x2, .int x5, .int x1, .int x2, .int (1 : Int32)] H (fun v G => jm_w S 7 242 51 [.ref r0, .int x1, .int x2, .int x3, .int x4, .int x5] (v.toList ++ []) G Q) := (js1 at242_40 rfl rfl rfl).trans ((js1 at242_41 rfl rfl rfl).trans ((js1 at242_42 rfl rfl rfl).trans ((js1 at242_43 rfl rfl rfl).trans ((js1 at242_45 rfl rfl rfl).trans ((js1 at242_46 rfl rfl rfl).trans ((jsci at242_47 rfl rfl).trans (jscall (H := H) (as := [.ref r0, .int x1, .int x2, .int x5, .int x1, .int x2, .int (1 : Int32)]) (q := []) at242_48 rfl rv242i_397 (jscutV rfl rfl rfl (Nat.le_of_ble_eq_true rfl) rfl h0) rfl (Nat.le_of_ble_eq_true rfl) rfl rfl)))))))
theorem at242_51 : jm_at 242 51 = some (.ireturn) := rfl
theorem u242_51 {S : Option (Nat × (Nat → Int32))} {H : jm_H} {Q : Option Value → jm_H → Prop} {r0 : Nat} {x1 x2 x3 x4 x5 p0 : Int32} : jm_w S 7 242 51 [.ref r0, .int x1, .int x2, .int x3, .int x4, .int x5] [.int p0] H Q = Q (some (.int p0)) H := jsret_i at242_51 rfl
theorem en242 {S : Option (Nat × (Nat → Int32))} {H : jm_H} {Q : Option Value → jm_H → Prop} {r0 : Nat} {x1 x2 x3 x4 : Int32} : jm_c S 242 [.ref r0, .int x1, .int x2, .int x3, .int x4] H Q = jm_w S 7 242 0 [.ref r0, .int x1, .int x2, .int x3, .int x4, .null] [] H Q := rfl
theorem at243_0 : jm_at 243 0 = some (.iload_n 1) := rfl
theorem at243_1 : jm_at 243 1 = some (.iload_n 2) := rfl
theorem at243_2 : jm_at 243 2 = some (.iload_n 3) := rfl
theorem at243_3 : jm_at 243 3 = some (.invokestatic 302) := rfl
theorem rv243i_302 : jm_rv 243 (.invokestatic 302) = (1, 220, 0, 0) := rfl
theorem u243_0 {S : Option (Nat × (Nat → Int32))} {H : jm_H} {Q : Option Value → jm_H → Prop} {r0 : Nat} {x1 x2 x3 x4 : Int32} : jm_w S 7 243 0 [.ref r0, .int x1, .int x2, .int x3, .int x4, .null, .null] [] H Q = jm_c S 220 [.int x1, .int x2, .int x3] H (fun v G => jm_w S 7 243 6 [.ref r0, .int x1, .int x2, .int x3, .int x4, .null, .null] (v.toList ++ []) G Q) := (js1 at243_0 rfl rfl rfl).trans ((js1 at243_1 rfl rfl rfl).trans ((js1 at243_2 rfl rfl rfl).trans (jscall (H := H) (as := [.int x1, .int x2, .int x3]) (q := []) at243_3 rfl rv243i_302 (jscut rfl rfl rfl (Nat.le_of_ble_eq_true rfl)) rfl (Nat.le_of_ble_eq_true rfl) rfl rfl)))
theorem at243_6 : jm_at 243 6 = some (.ifCond .eq 14) := rfl
theorem u243_6 {S : Option (Nat × (Nat → Int32))} {H : jm_H} {Q : Option Value → jm_H → Prop} {r0 : Nat} {x1 x2 x3 x4 p0 : Int32} : jm_w S 7 243 6 [.ref r0, .int x1, .int x2, .int x3, .int x4, .null, .null] [.int p0] H Q = if p0 = 0 then jm_w S 7 243 20 [.ref r0, .int x1, .int x2, .int x3, .int x4, .null, .null] [] H Q else jm_w S 7 243 9 [.ref r0, .int x1, .int x2, .int x3, .int x4, .null, .null] [] H Q := jsif (P := p0 = 0) at243_6 rfl rfl
theorem at243_9 : jm_at 243 9 = some (.iload 4) := rfl
theorem at243_11 : jm_at 243 11 = some (.iconst 0) := rfl
theorem at243_12 : jm_at 243 12 = some (.bipush 50) := rfl
theorem at243_14 : jm_at 243 14 = some (.invokestatic 218) := rfl
theorem rv243i_218 : jm_rv 243 (.invokestatic 218) = (1, 176, 0, 0) := rfl
theorem u243_9 {S : Option (Nat × (Nat → Int32))} {H : jm_H} {Q : Option Value → jm_H → Prop} {r0 : Nat} {x1 x2 x3 x4 : Int32} : jm_w S 7 243 9 [.ref r0, .int x1, .int x2, .int x3, .int x4, .null, .null] [] H Q = jm_c S 176 [.int x4, .int (0 : Int32), .int (50 : Int32)] H (fun v G => jm_w S 7 243 17 [.ref r0, .int x1, .int x2, .int x3, .int x4, .null, .null] (v.toList ++ []) G Q) := (js1 at243_9 rfl rfl rfl).trans ((jsci at243_11 rfl rfl).trans ((jscb at243_12 rfl rfl).trans (jscall (H := H) (as := [.int x4, .int (0 : Int32), .int (50 : Int32)]) (q := []) at243_14 rfl rv243i_218 (jscut rfl rfl rfl (Nat.le_of_ble_eq_true rfl)) rfl (Nat.le_of_ble_eq_true rfl) rfl rfl)))
theorem at243_17 : jm_at 243 17 = some (.ifCond .ne 5) := rfl
theorem u243_17 {S : Option (Nat × (Nat → Int32))} {H : jm_H} {Q : Option Value → jm_H → Prop} {r0 : Nat} {x1 x2 x3 x4 p0 : Int32} : jm_w S 7 243 17 [.ref r0, .int x1, .int x2, .int x3, .int x4, .null, .null] [.int p0] H Q = if ¬ p0 = 0 then jm_w S 7 243 22 [.ref r0, .int x1, .int x2, .int x3, .int x4, .null, .null] [] H Q else jm_w S 7 243 20 [.ref r0, .int x1, .int x2, .int x3, .int x4, .null, .null] [] H Q := jsif (P := ¬ p0 = 0) at243_17 rfl rfl
theorem at243_20 : jm_at 243 20 = some (.iconst (-1)) := rfl
theorem at243_21 : jm_at 243 21 = some (.ireturn) := rfl
theorem u243_20 {S : Option (Nat × (Nat → Int32))} {H : jm_H} {Q : Option Value → jm_H → Prop} {r0 : Nat} {x1 x2 x3 x4 : Int32} : jm_w S 7 243 20 [.ref r0, .int x1, .int x2, .int x3, .int x4, .null, .null] [] H Q = Q (some (.int (-1 : Int32))) H := (jsci at243_20 rfl rfl).trans (jsret_i at243_21 rfl)
theorem at243_22 : jm_at 243 22 = some (.iconst 1) := rfl
theorem at243_23 : jm_at 243 23 = some (.iload_n 1) := rfl
theorem at243_24 : jm_at 243 24 = some (.iconst 2) := rfl
theorem at243_25 : jm_at 243 25 = some (.isub) := rfl
theorem at243_26 : jm_at 243 26 = some (.ishl) := rfl
theorem at243_27 : jm_at 243 27 = some (.istore 5) := rfl
theorem at243_29 : jm_at 243 29 = some (.iconst 0) := rfl
theorem at243_30 : jm_at 243 30 = some (.istore 6) := rfl
theorem u243_22 {S : Option (Nat × (Nat → Int32))} {H : jm_H} {Q : Option Value → jm_H → Prop} {r0 : Nat} {x1 x2 x3 x4 : Int32} : jm_w S 7 243 22 [.ref r0, .int x1, .int x2, .int x3, .int x4, .null, .null] [] H Q = jm_w S 7 243 32 [.ref r0, .int x1, .int x2, .int x3, .int x4, .int ((1 : Int32) <<< ((x1 - (2 : Int32)) &&& 31)), .int (0 : Int32)] [] H Q := (jsci at243_22 rfl rfl).trans ((js1 at243_23 rfl rfl rfl).trans ((jsci at243_24 rfl rfl).trans ((js0 at243_25 rfl rfl rfl).trans ((js0 at243_26 rfl rfl rfl).trans ((js1 at243_27 rfl rfl rfl).trans ((jsci at243_29 rfl rfl).trans (js1 at243_30 rfl rfl rfl)))))))
theorem at243_32 : jm_at 243 32 = some (.iload 6) := rfl
theorem at243_34 : jm_at 243 34 = some (.iload 4) := rfl
theorem at243_36 : jm_at 243 36 = some (.if_icmp .ge 21) := rfl
theorem u243_32 {S : Option (Nat × (Nat → Int32))} {H : jm_H} {Q : Option Value → jm_H → Prop} {r0 : Nat} {x1 x2 x3 x4 x5 x6 : Int32} : jm_w S 7 243 32 [.ref r0, .int x1, .int x2, .int x3, .int x4, .int x5, .int x6] [] H Q = if x4 ≤ x6 then jm_w S 7 243 57 [.ref r0, .int x1, .int x2, .int x3, .int x4, .int x5, .int x6] [] H Q else jm_w S 7 243 39 [.ref r0, .int x1, .int x2, .int x3, .int x4, .int x5, .int x6] [] H Q := (js1 at243_32 rfl rfl rfl).trans ((js1 at243_34 rfl rfl rfl).trans (jsif (P := x4 ≤ x6) at243_36 rfl rfl))
theorem at243_39 : jm_at 243 39 = some (.aload_n 0) := rfl
theorem at243_40 : jm_at 243 40 = some (.iload_n 1) := rfl
theorem at243_41 : jm_at 243 41 = some (.iload_n 2) := rfl
theorem at243_42 : jm_at 243 42 = some (.iload 5) := rfl
theorem at243_44 : jm_at 243 44 = some (.iload_n 3) := rfl
theorem at243_45 : jm_at 243 45 = some (.iconst 2) := rfl
theorem at243_46 : jm_at 243 46 = some (.invokevirtual 269) := rfl
theorem rv243i_269 : jm_rv 243 (.invokevirtual 269) = (2, 209, 0, 0) := rfl
theorem u243_39 {S : Option (Nat × (Nat → Int32))} {H : jm_H} {Q : Option Value → jm_H → Prop} {r0 : Nat} {x1 x2 x3 x4 x5 x6 : Int32} (h0 : jm_tg H r0 = 13) : jm_w S 7 243 39 [.ref r0, .int x1, .int x2, .int x3, .int x4, .int x5, .int x6] [] H Q = jm_c S 209 [.ref r0, .int x1, .int x2, .int x5, .int x3, .int (2 : Int32)] H (fun v G => jm_w S 7 243 49 [.ref r0, .int x1, .int x2, .int x3, .int x4, .int x5, .int x6] (v.toList ++ []) G Q) := (js1 at243_39 rfl rfl rfl).trans ((js1 at243_40 rfl rfl rfl).trans ((js1 at243_41 rfl rfl rfl).trans ((js1 at243_42 rfl rfl rfl).trans ((js1 at243_44 rfl rfl rfl).trans ((jsci at243_45 rfl rfl).trans (jscall (H := H) (as := [.ref r0, .int x1, .int x2, .int x5, .int x3, .int (2 : Int32)]) (q := []) at243_46 rfl rv243i_269 (jscutV rfl rfl rfl (Nat.le_of_ble_eq_true rfl) rfl h0) rfl (Nat.le_of_ble_eq_true rfl) rfl rfl))))))
theorem at243_49 : jm_at 243 49 = some (.istore 5) := rfl
theorem at243_51 : jm_at 243 51 = some (.iinc 6 1) := rfl
theorem at243_54 : jm_at 243 54 = some (.goto (-22)) := rfl
theorem u243_49 {S : Option (Nat × (Nat → Int32))} {H : jm_H} {Q : Option Value → jm_H → Prop} {r0 : Nat} {x1 x2 x3 x4 x5 x6 p0 : Int32} : jm_w S 7 243 49 [.ref r0, .int x1, .int x2, .int x3, .int x4, .int x5, .int x6] [.int p0] H Q = jm_w S 7 243 32 [.ref r0, .int x1, .int x2, .int x3, .int x4, .int p0, .int (x6 + 1)] [] H Q := (js1 at243_49 rfl rfl rfl).trans ((jsinc at243_51 rfl rfl rfl).trans (js2 at243_54 rfl rfl))
theorem at243_57 : jm_at 243 57 = some (.iload 5) := rfl
theorem at243_59 : jm_at 243 59 = some (.ireturn) := rfl
theorem u243_57 {S : Option (Nat × (Nat → Int32))} {H : jm_H} {Q : Option Value → jm_H → Prop} {r0 : Nat} {x1 x2 x3 x4 x5 x6 : Int32} : jm_w S 7 243 57 [.ref r0, .int x1, .int x2, .int x3, .int x4, .int x5, .int x6] [] H Q = Q (some (.int x5)) H := (js1 at243_57 rfl rfl rfl).trans (jsret_i at243_59 rfl)
theorem en243 {S : Option (Nat × (Nat → Int32))} {H : jm_H} {Q : Option Value → jm_H → Prop} {r0 : Nat} {x1 x2 x3 x4 : Int32} : jm_c S 243 [.ref r0, .int x1, .int x2, .int x3, .int x4] H Q = jm_w S 7 243 0 [.ref r0, .int x1, .int x2, .int x3, .int x4, .null, .null] [] H Q := rfl
theorem at244_0 : jm_at 244 0 = some (.iload_n 1) := rfl
theorem at244_1 : jm_at 244 1 = some (.iload_n 2) := rfl
theorem at244_2 : jm_at 244 2 = some (.iload_n 3) := rfl
theorem at244_3 : jm_at 244 3 = some (.invokestatic 302) := rfl
theorem rv244i_302 : jm_rv 244 (.invokestatic 302) = (1, 220, 0, 0) := rfl
theorem u244_0 {S : Option (Nat × (Nat → Int32))} {H : jm_H} {Q : Option Value → jm_H → Prop} {r0 : Nat} {x1 x2 x3 x4 x5 : Int32} : jm_w S 4 244 0 [.ref r0, .int x1, .int x2, .int x3, .int x4, .int x5, .null, .null] [] H Q = jm_c S 220 [.int x1, .int x2, .int x3] H (fun v G => jm_w S 4 244 6 [.ref r0, .int x1, .int x2, .int x3, .int x4, .int x5, .null, .null] (v.toList ++ []) G Q) := (js1 at244_0 rfl rfl rfl).trans ((js1 at244_1 rfl rfl rfl).trans ((js1 at244_2 rfl rfl rfl).trans (jscall (H := H) (as := [.int x1, .int x2, .int x3]) (q := []) at244_3 rfl rv244i_302 (jscut rfl rfl rfl (Nat.le_of_ble_eq_true rfl)) rfl (Nat.le_of_ble_eq_true rfl) rfl rfl)))
theorem at244_6 : jm_at 244 6 = some (.ifCond .eq 33) := rfl
theorem u244_6 {S : Option (Nat × (Nat → Int32))} {H : jm_H} {Q : Option Value → jm_H → Prop} {r0 : Nat} {x1 x2 x3 x4 x5 p0 : Int32} : jm_w S 4 244 6 [.ref r0, .int x1, .int x2, .int x3, .int x4, .int x5, .null, .null] [.int p0] H Q = if p0 = 0 then jm_w S 4 244 39 [.ref r0, .int x1, .int x2, .int x3, .int x4, .int x5, .null, .null] [] H Q else jm_w S 4 244 9 [.ref r0, .int x1, .int x2, .int x3, .int x4, .int x5, .null, .null] [] H Q := jsif (P := p0 = 0) at244_6 rfl rfl
theorem at244_9 : jm_at 244 9 = some (.iload_n 1) := rfl
theorem at244_10 : jm_at 244 10 = some (.iload_n 3) := rfl
theorem at244_11 : jm_at 244 11 = some (.invokestatic 276) := rfl
theorem rv244i_276 : jm_rv 244 (.invokestatic 276) = (1, 204, 0, 0) := rfl
theorem u244_9 {S : Option (Nat × (Nat → Int32))} {H : jm_H} {Q : Option Value → jm_H → Prop} {r0 : Nat} {x1 x2 x3 x4 x5 : Int32} : jm_w S 4 244 9 [.ref r0, .int x1, .int x2, .int x3, .int x4, .int x5, .null, .null] [] H Q = jm_c S 204 [.int x1, .int x3] H (fun v G => jm_w S 4 244 14 [.ref r0, .int x1, .int x2, .int x3, .int x4, .int x5, .null, .null] (v.toList ++ []) G Q) := (js1 at244_9 rfl rfl rfl).trans ((js1 at244_10 rfl rfl rfl).trans (jscall (H := H) (as := [.int x1, .int x3]) (q := []) at244_11 rfl rv244i_276 (jscut rfl rfl rfl (Nat.le_of_ble_eq_true rfl)) rfl (Nat.le_of_ble_eq_true rfl) rfl rfl))
theorem at244_14 : jm_at 244 14 = some (.ifCond .ne 25) := rfl
theorem u244_14 {S : Option (Nat × (Nat → Int32))} {H : jm_H} {Q : Option Value → jm_H → Prop} {r0 : Nat} {x1 x2 x3 x4 x5 p0 : Int32} : jm_w S 4 244 14 [.ref r0, .int x1, .int x2, .int x3, .int x4, .int x5, .null, .null] [.int p0] H Q = if ¬ p0 = 0 then jm_w S 4 244 39 [.ref r0, .int x1, .int x2, .int x3, .int x4, .int x5, .null, .null] [] H Q else jm_w S 4 244 17 [.ref r0, .int x1, .int x2, .int x3, .int x4, .int x5, .null, .null] [] H Q := jsif (P := ¬ p0 = 0) at244_14 rfl rfl
theorem at244_17 : jm_at 244 17 = some (.iload 4) := rfl
theorem at244_19 : jm_at 244 19 = some (.iconst 1) := rfl
theorem at244_20 : jm_at 244 20 = some (.sipush 1000) := rfl
theorem at244_23 : jm_at 244 23 = some (.invokestatic 218) := rfl
theorem rv244i_218 : jm_rv 244 (.invokestatic 218) = (1, 176, 0, 0) := rfl
theorem u244_17 {S : Option (Nat × (Nat → Int32))} {H : jm_H} {Q : Option Value → jm_H → Prop} {r0 : Nat} {x1 x2 x3 x4 x5 : Int32} : jm_w S 4 244 17 [.ref r0, .int x1, .int x2, .int x3, .int x4, .int x5, .null, .null] [] H Q = jm_c S 176 [.int x4, .int (1 : Int32), .int (1000 : Int32)] H (fun v G => jm_w S 4 244 26 [.ref r0, .int x1, .int x2, .int x3, .int x4, .int x5, .null, .null] (v.toList ++ []) G Q) := (js1 at244_17 rfl rfl rfl).trans ((jsci at244_19 rfl rfl).trans ((jscs at244_20 rfl rfl).trans (jscall (H := H) (as := [.int x4, .int (1 : Int32), .int (1000 : Int32)]) (q := []) at244_23 rfl rv244i_218 (jscut rfl rfl rfl (Nat.le_of_ble_eq_true rfl)) rfl (Nat.le_of_ble_eq_true rfl) rfl rfl)))
theorem at244_26 : jm_at 244 26 = some (.ifCond .eq 13) := rfl
theorem u244_26 {S : Option (Nat × (Nat → Int32))} {H : jm_H} {Q : Option Value → jm_H → Prop} {r0 : Nat} {x1 x2 x3 x4 x5 p0 : Int32} : jm_w S 4 244 26 [.ref r0, .int x1, .int x2, .int x3, .int x4, .int x5, .null, .null] [.int p0] H Q = if p0 = 0 then jm_w S 4 244 39 [.ref r0, .int x1, .int x2, .int x3, .int x4, .int x5, .null, .null] [] H Q else jm_w S 4 244 29 [.ref r0, .int x1, .int x2, .int x3, .int x4, .int x5, .null, .null] [] H Q := jsif (P := p0 = 0) at244_26 rfl rfl
theorem at244_29 : jm_at 244 29 = some (.iload 5) := rfl
theorem at244_31 : jm_at 244 31 = some (.iconst 0) := rfl
theorem at244_32 : jm_at 244 32 = some (.iconst 1) := rfl
theorem at244_33 : jm_at 244 33 = some (.invokestatic 218) := rfl
theorem u244_29 {S : Option (Nat × (Nat → Int32))} {H : jm_H} {Q : Option Value → jm_H → Prop} {r0 : Nat} {x1 x2 x3 x4 x5 : Int32} : jm_w S 4 244 29 [.ref r0, .int x1, .int x2, .int x3, .int x4, .int x5, .null, .null] [] H Q = jm_c S 176 [.int x5, .int (0 : Int32), .int (1 : Int32)] H (fun v G => jm_w S 4 244 36 [.ref r0, .int x1, .int x2, .int x3, .int x4, .int x5, .null, .null] (v.toList ++ []) G Q) := (js1 at244_29 rfl rfl rfl).trans ((jsci at244_31 rfl rfl).trans ((jsci at244_32 rfl rfl).trans (jscall (H := H) (as := [.int x5, .int (0 : Int32), .int (1 : Int32)]) (q := []) at244_33 rfl rv244i_218 (jscut rfl rfl rfl (Nat.le_of_ble_eq_true rfl)) rfl (Nat.le_of_ble_eq_true rfl) rfl rfl)))
theorem at244_36 : jm_at 244 36 = some (.ifCond .ne 7) := rfl
theorem u244_36 {S : Option (Nat × (Nat → Int32))} {H : jm_H} {Q : Option Value → jm_H → Prop} {r0 : Nat} {x1 x2 x3 x4 x5 p0 : Int32} : jm_w S 4 244 36 [.ref r0, .int x1, .int x2, .int x3, .int x4, .int x5, .null, .null] [.int p0] H Q = if ¬ p0 = 0 then jm_w S 4 244 43 [.ref r0, .int x1, .int x2, .int x3, .int x4, .int x5, .null, .null] [] H Q else jm_w S 4 244 39 [.ref r0, .int x1, .int x2, .int x3, .int x4, .int x5, .null, .null] [] H Q := jsif (P := ¬ p0 = 0) at244_36 rfl rfl
theorem at244_39 : jm_at 244 39 = some (.ldc2_w 440) := rfl
theorem rv244l_440 : jm_rv 244 (.ldc2_w 440) = (9, 0, 0, (-1000000000000000)) := rfl
theorem at244_42 : jm_at 244 42 = some (.lreturn) := rfl
theorem u244_39 {S : Option (Nat × (Nat → Int32))} {H : jm_H} {Q : Option Value → jm_H → Prop} {r0 : Nat} {x1 x2 x3 x4 x5 : Int32} : jm_w S 4 244 39 [.ref r0, .int x1, .int x2, .int x3, .int x4, .int x5, .null, .null] [] H Q = Q (some (.long (-1000000000000000 : Int64))) H := (jsk2 at244_39 rv244l_440 rfl rfl).trans (jsret_l at244_42 rfl)
theorem at244_43 : jm_at 244 43 = some (.iload_n 3) := rfl
theorem at244_44 : jm_at 244 44 = some (.ifCond .ne 7) := rfl
theorem u244_43 {S : Option (Nat × (Nat → Int32))} {H : jm_H} {Q : Option Value → jm_H → Prop} {r0 : Nat} {x1 x2 x3 x4 x5 : Int32} : jm_w S 4 244 43 [.ref r0, .int x1, .int x2, .int x3, .int x4, .int x5, .null, .null] [] H Q = if ¬ x3 = 0 then jm_w S 4 244 51 [.ref r0, .int x1, .int x2, .int x3, .int x4, .int x5, .null, .null] [] H Q else jm_w S 4 244 47 [.ref r0, .int x1, .int x2, .int x3, .int x4, .int x5, .null, .null] [] H Q := (js1 at244_43 rfl rfl rfl).trans (jsif (P := ¬ x3 = 0) at244_44 rfl rfl)
theorem at244_47 : jm_at 244 47 = some (.iload 5) := rfl
theorem at244_49 : jm_at 244 49 = some (.i2l) := rfl
theorem at244_50 : jm_at 244 50 = some (.lreturn) := rfl
theorem u244_47 {S : Option (Nat × (Nat → Int32))} {H : jm_H} {Q : Option Value → jm_H → Prop} {r0 : Nat} {x1 x2 x3 x4 x5 : Int32} : jm_w S 4 244 47 [.ref r0, .int x1, .int x2, .int x3, .int x4, .int x5, .null, .null] [] H Q = Q (some (.long (Int32.toInt64 x5))) H := (js1 at244_47 rfl rfl rfl).trans ((js0 at244_49 rfl rfl rfl).trans (jsret_l at244_50 rfl))
theorem at244_51 : jm_at 244 51 = some (.aload_n 0) := rfl
theorem at244_52 : jm_at 244 52 = some (.iload_n 1) := rfl
theorem at244_53 : jm_at 244 53 = some (.iload_n 2) := rfl
theorem at244_54 : jm_at 244 54 = some (.iload_n 3) := rfl
theorem at244_55 : jm_at 244 55 = some (.invokevirtual 345) := rfl
theorem rv244i_345 : jm_rv 244 (.invokevirtual 345) = (2, 193, 0, 0) := rfl
theorem u244_51 {S : Option (Nat × (Nat → Int32))} {H : jm_H} {Q : Option Value → jm_H → Prop} {r0 : Nat} {x1 x2 x3 x4 x5 : Int32} (h0 : jm_tg H r0 = 13) : jm_w S 4 244 51 [.ref r0, .int x1, .int x2, .int x3, .int x4, .int x5, .null, .null] [] H Q = jm_c S 193 [.ref r0, .int x1, .int x2, .int x3] H (fun v G => jm_w S 4 244 58 [.ref r0, .int x1, .int x2, .int x3, .int x4, .int x5, .null, .null] (v.toList ++ []) G Q) := (js1 at244_51 rfl rfl rfl).trans ((js1 at244_52 rfl rfl rfl).trans ((js1 at244_53 rfl rfl rfl).trans ((js1 at244_54 rfl rfl rfl).trans (jscall (H := H) (as := [.ref r0, .int x1, .int x2, .int x3]) (q := []) at244_55 rfl rv244i_345 (jscutV rfl rfl rfl (Nat.le_of_ble_eq_true rfl) rfl h0) rfl (Nat.le_of_ble_eq_true rfl) rfl rfl))))
theorem at244_58 : jm_at 244 58 = some (.iload_n 1) := rfl
theorem at244_59 : jm_at 244 59 = some (.iload_n 3) := rfl
theorem at244_60 : jm_at 244 60 = some (.invokestatic 348) := rfl
theorem rv244i_348 : jm_rv 244 (.invokestatic 348) = (1, 206, 0, 0) := rfl
theorem u244_58 {S : Option (Nat × (Nat → Int32))} {H : jm_H} {Q : Option Value → jm_H → Prop} {r0 : Nat} {x1 x2 x3 x4 x5 : Int32} : jm_w S 4 244 58 [.ref r0, .int x1, .int x2, .int x3, .int x4, .int x5, .null, .null] [] H Q = jm_c S 206 [.int x1, .int x3] H (fun v G => jm_w S 4 244 63 [.ref r0, .int x1, .int x2, .int x3, .int x4, .int x5, .null, .null] (v.toList ++ []) G Q) := (js1 at244_58 rfl rfl rfl).trans ((js1 at244_59 rfl rfl rfl).trans (jscall (H := H) (as := [.int x1, .int x3]) (q := []) at244_60 rfl rv244i_348 (jscut rfl rfl rfl (Nat.le_of_ble_eq_true rfl)) rfl (Nat.le_of_ble_eq_true rfl) rfl rfl))
theorem at244_63 : jm_at 244 63 = some (.i2l) := rfl
theorem at244_64 : jm_at 244 64 = some (.aload_n 0) := rfl
theorem at244_65 : jm_at 244 65 = some (.getfield 328) := rfl
theorem rv244g_328 : jm_rv 244 (.getfield 328) = (0, 12, 48, 0) := rfl
theorem at244_68 : jm_at 244 68 = some (.i2l) := rfl
theorem at244_69 : jm_at 244 69 = some (.lmul) := rfl
theorem at244_70 : jm_at 244 70 = some (.lstore 6) := rfl
theorem at244_72 : jm_at 244 72 = some (.aload_n 0) := rfl
theorem at244_73 : jm_at 244 73 = some (.getfield 331) := rfl
theorem rv244g_331 : jm_rv 244 (.getfield 331) = (0, 12, 49, 0) := rfl
theorem at244_76 : jm_at 244 76 = some (.ifCond .ge 21) := rfl
theorem u244_63 {S : Option (Nat × (Nat → Int32))} {H : jm_H} {Q : Option Value → jm_H → Prop} {r0 : Nat} {x1 x2 x3 x4 x5 p0 : Int32} (h0 : jm_tg H r0 = 13) : jm_w S 4 244 63 [.ref r0, .int x1, .int x2, .int x3, .int x4, .int x5, .null, .null] [.int p0] H Q = if 0 ≤ (jm_I H r0 49) then jm_w S 4 244 97 [.ref r0, .int x1, .int x2, .int x3, .int x4, .int x5, .long ((Int32.toInt64 p0) * (Int32.toInt64 (jm_I H r0 48))), .null] [] H Q else jm_w S 4 244 79 [.ref r0, .int x1, .int x2, .int x3, .int x4, .int x5, .long ((Int32.toInt64 p0) * (Int32.toInt64 (jm_I H r0 48))), .null] [] H Q := (js0 at244_63 rfl rfl rfl).trans ((js1 at244_64 rfl rfl rfl).trans ((jsgI (H := H) at244_65 rv244g_328 (Or.inl rfl) h0 rfl).trans ((js0 at244_68 rfl rfl rfl).trans ((js0 at244_69 rfl rfl rfl).trans ((js1 at244_70 rfl rfl rfl).trans ((js1 at244_72 rfl rfl rfl).trans ((jsgI (H := H) at244_73 rv244g_331 (Or.inl rfl) h0 rfl).trans (jsif (P := 0 ≤ (jm_I H r0 49)) at244_76 rfl rfl))))))))
theorem at244_79 : jm_at 244 79 = some (.aload_n 0) := rfl
theorem at244_80 : jm_at 244 80 = some (.lload 6) := rfl
theorem at244_82 : jm_at 244 82 = some (.aload_n 0) := rfl
theorem at244_83 : jm_at 244 83 = some (.getfield 331) := rfl
theorem at244_86 : jm_at 244 86 = some (.ineg) := rfl
theorem at244_87 : jm_at 244 87 = some (.iload 4) := rfl
theorem at244_89 : jm_at 244 89 = some (.iload 5) := rfl
theorem at244_91 : jm_at 244 91 = some (.invokevirtual 442) := rfl
theorem rv244i_442 : jm_rv 244 (.invokevirtual 442) = (2, 245, 0, 0) := rfl
theorem u244_79 {S : Option (Nat × (Nat → Int32))} {H : jm_H} {Q : Option Value → jm_H → Prop} {r0 : Nat} {x1 x2 x3 x4 x5 : Int32} {y6 : Int64} (h0 : jm_tg H r0 = 13) : jm_w S 4 244 79 [.ref r0, .int x1, .int x2, .int x3, .int x4, .int x5, .long y6, .null] [] H Q = jm_c S 245 [.ref r0, .long y6, .int (-(jm_I H r0 49)), .int x4, .int x5] H (fun v G => jm_w S 4 244 94 [.ref r0, .int x1, .int x2, .int x3, .int x4, .int x5, .long y6, .null] (v.toList ++ []) G Q) := (js1 at244_79 rfl rfl rfl).trans ((js1 at244_80 rfl rfl rfl).trans ((js1 at244_82 rfl rfl rfl).trans ((jsgI (H := H) at244_83 rv244g_331 (Or.inl rfl) h0 rfl).trans ((js0 at244_86 rfl rfl rfl).trans ((js1 at244_87 rfl rfl rfl).trans ((js1 at244_89 rfl rfl rfl).trans (jscall (H := H) (as := [.ref r0, .long y6, .int (-(jm_I H r0 49)), .int x4, .int x5]) (q := []) at244_91 rfl rv244i_442 (jscutV rfl rfl rfl (Nat.le_of_ble_eq_true rfl) rfl h0) rfl (Nat.le_of_ble_eq_true rfl) rfl rfl)))))))
theorem at244_94 : jm_at 244 94 = some (.goto 19) := rfl
theorem u244_94 {S : Option (Nat × (Nat → Int32))} {H : jm_H} {Q : Option Value → jm_H → Prop} {r0 : Nat} {x1 x2 x3 x4 x5 : Int32} {y6 q0 : Int64} : jm_w S 4 244 94 [.ref r0, .int x1, .int x2, .int x3, .int x4, .int x5, .long y6, .null] [.long q0] H Q = jm_w S 4 244 113 [.ref r0, .int x1, .int x2, .int x3, .int x4, .int x5, .long y6, .null] [.long q0] H Q := js2 at244_94 rfl rfl
theorem at244_97 : jm_at 244 97 = some (.iload 5) := rfl
theorem at244_99 : jm_at 244 99 = some (.ifCond .ne 13) := rfl
theorem u244_97 {S : Option (Nat × (Nat → Int32))} {H : jm_H} {Q : Option Value → jm_H → Prop} {r0 : Nat} {x1 x2 x3 x4 x5 : Int32} {y6 : Int64} : jm_w S 4 244 97 [.ref r0, .int x1, .int x2, .int x3, .int x4, .int x5, .long y6, .null] [] H Q = if ¬ x5 = 0 then jm_w S 4 244 112 [.ref r0, .int x1, .int x2, .int x3, .int x4, .int x5, .long y6, .null] [] H Q else jm_w S 4 244 102 [.ref r0, .int x1, .int x2, .int x3, .int x4, .int x5, .long y6, .null] [] H Q := (js1 at244_97 rfl rfl rfl).trans (jsif (P := ¬ x5 = 0) at244_99 rfl rfl)
theorem at244_102 : jm_at 244 102 = some (.lload 6) := rfl
theorem at244_104 : jm_at 244 104 = some (.aload_n 0) := rfl
theorem at244_105 : jm_at 244 105 = some (.getfield 331) := rfl
theorem at244_108 : jm_at 244 108 = some (.lshl) := rfl
theorem at244_109 : jm_at 244 109 = some (.goto 4) := rfl
theorem u244_102 {S : Option (Nat × (Nat → Int32))} {H : jm_H} {Q : Option Value → jm_H → Prop} {r0 : Nat} {x1 x2 x3 x4 x5 : Int32} {y6 : Int64} (h0 : jm_tg H r0 = 13) : jm_w S 4 244 102 [.ref r0, .int x1, .int x2, .int x3, .int x4, .int x5, .long y6, .null] [] H Q = jm_w S 4 244 113 [.ref r0, .int x1, .int x2, .int x3, .int x4, .int x5, .long y6, .null] [.long (y6 <<< (Int32.toInt64 (jm_I H r0 49) &&& 63))] H Q := (js1 at244_102 rfl rfl rfl).trans ((js1 at244_104 rfl rfl rfl).trans ((jsgI (H := H) at244_105 rv244g_331 (Or.inl rfl) h0 rfl).trans ((js0 at244_108 rfl rfl rfl).trans (js2 at244_109 rfl rfl))))
theorem at244_112 : jm_at 244 112 = some (.lconst 1) := rfl
theorem u244_112 {S : Option (Nat × (Nat → Int32))} {H : jm_H} {Q : Option Value → jm_H → Prop} {r0 : Nat} {x1 x2 x3 x4 x5 : Int32} {y6 : Int64} : jm_w S 4 244 112 [.ref r0, .int x1, .int x2, .int x3, .int x4, .int x5, .long y6, .null] [] H Q = jm_w S 4 244 113 [.ref r0, .int x1, .int x2, .int x3, .int x4, .int x5, .long y6, .null] [.long (1 : Int64)] H Q := jscl at244_112 rfl rfl
theorem at244_113 : jm_at 244 113 = some (.lreturn) := rfl
theorem u244_113 {S : Option (Nat × (Nat → Int32))} {H : jm_H} {Q : Option Value → jm_H → Prop} {r0 : Nat} {x1 x2 x3 x4 x5 : Int32} {y6 q0 : Int64} : jm_w S 4 244 113 [.ref r0, .int x1, .int x2, .int x3, .int x4, .int x5, .long y6, .null] [.long q0] H Q = Q (some (.long q0)) H := jsret_l at244_113 rfl
theorem en244 {S : Option (Nat × (Nat → Int32))} {H : jm_H} {Q : Option Value → jm_H → Prop} {r0 : Nat} {x1 x2 x3 x4 x5 : Int32} : jm_c S 244 [.ref r0, .int x1, .int x2, .int x3, .int x4, .int x5] H Q = jm_w S 4 244 0 [.ref r0, .int x1, .int x2, .int x3, .int x4, .int x5, .null, .null] [] H Q := rfl
theorem at245_0 : jm_at 245 0 = some (.lconst 1) := rfl
theorem at245_1 : jm_at 245 1 = some (.iload_n 3) := rfl
theorem at245_2 : jm_at 245 2 = some (.lshl) := rfl
theorem at245_3 : jm_at 245 3 = some (.lstore 6) := rfl
theorem at245_5 : jm_at 245 5 = some (.lconst 0) := rfl
theorem at245_6 : jm_at 245 6 = some (.lstore 8) := rfl
theorem at245_8 : jm_at 245 8 = some (.lconst 0) := rfl
theorem at245_9 : jm_at 245 9 = some (.lstore 10) := rfl
theorem at245_11 : jm_at 245 11 = some (.lconst 0) := rfl
theorem at245_12 : jm_at 245 12 = some (.lstore 12) := rfl
theorem at245_14 : jm_at 245 14 = some (.lconst 1) := rfl
theorem at245_15 : jm_at 245 15 = some (.lstore 14) := rfl
theorem u245_0 {S : Option (Nat × (Nat → Int32))} {H : jm_H} {Q : Option Value → jm_H → Prop} {r0 : Nat} {y1 : Int64} {x3 x4 x5 : Int32} : jm_w S 1 245 0 [.ref r0, .long y1, .null, .int x3, .int x4, .int x5, .null, .null, .null, .null, .null, .null, .null, .null, .null, .null, .null, .null, .null, .null, .null, .null] [] H Q = jm_w S 1 245 17 [.ref r0, .long y1, .null, .int x3, .int x4, .int x5, .long ((1 : Int64) <<< (Int32.toInt64 x3 &&& 63)), .null, .long (0 : Int64), .null, .long (0 : Int64), .null, .long (0 : Int64), .null, .long (1 : Int64), .null, .null, .null, .null, .null, .null, .null] [] H Q := (jscl at245_0 rfl rfl).trans ((js1 at245_1 rfl rfl rfl).trans ((js0 at245_2 rfl rfl rfl).trans ((js1 at245_3 rfl rfl rfl).trans ((jscl at245_5 rfl rfl).trans ((js1 at245_6 rfl rfl rfl).trans ((jscl at245_8 rfl rfl).trans ((js1 at245_9 rfl rfl rfl).trans ((jscl at245_11 rfl rfl).trans ((js1 at245_12 rfl rfl rfl).trans ((jscl at245_14 rfl rfl).trans (js1 at245_15 rfl rfl rfl)))))))))))
theorem at245_17 : jm_at 245 17 = some (.lload 14) := rfl
theorem at245_19 : jm_at 245 19 = some (.iload 4) := rfl
theorem at245_21 : jm_at 245 21 = some (.i2l) := rfl
theorem at245_22 : jm_at 245 22 = some (.lcmp) := rfl
theorem at245_23 : jm_at 245 23 = some (.ifCond .gt 113) := rfl
theorem u245_17 {S : Option (Nat × (Nat → Int32))} {H : jm_H} {Q : Option Value → jm_H → Prop} {r0 : Nat} {y1 y6 y8 y10 y12 y14 : Int64} {x3 x4 x5 : Int32} {w16 w18 w20 : Value} : jm_w S 1 245 17 [.ref r0, .long y1, .null, .int x3, .int x4, .int x5, .long y6, .null, .long y8, .null, .long y10, .null, .long y12, .null, .long y14, .null, w16, .null, w18, .null, w20, .null] [] H Q = if 0 < (lg_cmp y14 (Int32.toInt64 x4)) then jm_w S 1 245 136 [.ref r0, .long y1, .null, .int x3, .int x4, .int x5, .long y6, .null, .long y8, .null, .long y10, .null, .long y12, .null, .long y14, .null, w16, .null, w18, .null, w20, .null] [] H Q else jm_w S 1 245 26 [.ref r0, .long y1, .null, .int x3, .int x4, .int x5, .long y6, .null, .long y8, .null, .long y10, .null, .long y12, .null, .long y14, .null, w16, .null, w18, .null, w20, .null] [] H Q := (js1 at245_17 rfl rfl rfl).trans ((js1 at245_19 rfl rfl rfl).trans ((js0 at245_21 rfl rfl rfl).trans ((js0 at245_22 rfl rfl rfl).trans (jsif (P := 0 < (lg_cmp y14 (Int32.toInt64 x4))) at245_23 rfl rfl))))
theorem at245_26 : jm_at 245 26 = some (.lload_n 1) := rfl
theorem at245_27 : jm_at 245 27 = some (.lload 14) := rfl
theorem at245_29 : jm_at 245 29 = some (.lmul) := rfl
theorem at245_30 : jm_at 245 30 = some (.lstore 16) := rfl
theorem at245_32 : jm_at 245 32 = some (.lload 16) := rfl
theorem at245_34 : jm_at 245 34 = some (.lload 6) := rfl
theorem at245_36 : jm_at 245 36 = some (.ldiv) := rfl
theorem at245_37 : jm_at 245 37 = some (.lstore 18) := rfl
theorem at245_39 : jm_at 245 39 = some (.lload 18) := rfl
theorem at245_41 : jm_at 245 41 = some (.lload 6) := rfl
theorem at245_43 : jm_at 245 43 = some (.lmul) := rfl
theorem at245_44 : jm_at 245 44 = some (.lload 16) := rfl
theorem at245_46 : jm_at 245 46 = some (.lcmp) := rfl
theorem at245_47 : jm_at 245 47 = some (.ifCond .le 9) := rfl
theorem u245_26 {S : Option (Nat × (Nat → Int32))} {H : jm_H} {Q : Option Value → jm_H → Prop} {r0 : Nat} {y1 y6 y8 y10 y12 y14 : Int64} {x3 x4 x5 : Int32} {w16 w18 w20 : Value} (h0 : ¬ y6 = 0) : jm_w S 1 245 26 [.ref r0, .long y1, .null, .int x3, .int x4, .int x5, .long y6, .null, .long y8, .null, .long y10, .null, .long y12, .null, .long y14, .null, w16, .null, w18, .null, w20, .null] [] H Q = if (lg_cmp (((y1 * y14) / y6) * y6) (y1 * y14)) ≤ 0 then jm_w S 1 245 56 [.ref r0, .long y1, .null, .int x3, .int x4, .int x5, .long y6, .null, .long y8, .null, .long y10, .null, .long y12, .null, .long y14, .null, .long (y1 * y14), .null, .long ((y1 * y14) / y6), .null, w20, .null] [] H Q else jm_w S 1 245 50 [.ref r0, .long y1, .null, .int x3, .int x4, .int x5, .long y6, .null, .long y8, .null, .long y10, .null, .long y12, .null, .long y14, .null, .long (y1 * y14), .null, .long ((y1 * y14) / y6), .null, w20, .null] [] H Q := (js1 at245_26 rfl rfl rfl).trans ((js1 at245_27 rfl rfl rfl).trans ((js0 at245_29 rfl rfl rfl).trans ((js1 at245_30 rfl rfl rfl).trans ((js1 at245_32 rfl rfl rfl).trans ((js1 at245_34 rfl rfl rfl).trans ((jsldiv at245_36 h0 rfl).trans ((js1 at245_37 rfl rfl rfl).trans ((js1 at245_39 rfl rfl rfl).trans ((js1 at245_41 rfl rfl rfl).trans ((js0 at245_43 rfl rfl rfl).trans ((js1 at245_44 rfl rfl rfl).trans ((js0 at245_46 rfl rfl rfl).trans (jsif (P := (lg_cmp (((y1 * y14) / y6) * y6) (y1 * y14)) ≤ 0) at245_47 rfl rfl)))))))))))))
theorem at245_50 : jm_at 245 50 = some (.lload 18) := rfl
theorem at245_52 : jm_at 245 52 = some (.lconst 1) := rfl
theorem at245_53 : jm_at 245 53 = some (.lsub) := rfl
theorem at245_54 : jm_at 245 54 = some (.lstore 18) := rfl
theorem u245_50 {S : Option (Nat × (Nat → Int32))} {H : jm_H} {Q : Option Value → jm_H → Prop} {r0 : Nat} {y1 y6 y8 y10 y12 y14 y16 y18 : Int64} {x3 x4 x5 : Int32} {w20 : Value} : jm_w S 1 245 50 [.ref r0, .long y1, .null, .int x3, .int x4, .int x5, .long y6, .null, .long y8, .null, .long y10, .null, .long y12, .null, .long y14, .null, .long y16, .null, .long y18, .null, w20, .null] [] H Q = jm_w S 1 245 56 [.ref r0, .long y1, .null, .int x3, .int x4, .int x5, .long y6, .null, .long y8, .null, .long y10, .null, .long y12, .null, .long y14, .null, .long y16, .null, .long (y18 - (1 : Int64)), .null, w20, .null] [] H Q := (js1 at245_50 rfl rfl rfl).trans ((jscl at245_52 rfl rfl).trans ((js0 at245_53 rfl rfl rfl).trans (js1 at245_54 rfl rfl rfl)))
theorem at245_56 : jm_at 245 56 = some (.lload 16) := rfl
theorem at245_58 : jm_at 245 58 = some (.lload 18) := rfl
theorem at245_60 : jm_at 245 60 = some (.lload 6) := rfl
theorem at245_62 : jm_at 245 62 = some (.lmul) := rfl
theorem at245_63 : jm_at 245 63 = some (.lsub) := rfl
theorem at245_64 : jm_at 245 64 = some (.lstore 20) := rfl
theorem at245_66 : jm_at 245 66 = some (.ldc2_w 406) := rfl
theorem rv245l_406 : jm_rv 245 (.ldc2_w 406) = (9, 0, 0, 2) := rfl
theorem at245_69 : jm_at 245 69 = some (.lload 20) := rfl
theorem at245_71 : jm_at 245 71 = some (.lmul) := rfl
theorem at245_72 : jm_at 245 72 = some (.lload 6) := rfl
theorem at245_74 : jm_at 245 74 = some (.lcmp) := rfl
theorem at245_75 : jm_at 245 75 = some (.ifCond .le 16) := rfl
theorem u245_56 {S : Option (Nat × (Nat → Int32))} {H : jm_H} {Q : Option Value → jm_H → Prop} {r0 : Nat} {y1 y6 y8 y10 y12 y14 y16 y18 : Int64} {x3 x4 x5 : Int32} {w20 : Value} : jm_w S 1 245 56 [.ref r0, .long y1, .null, .int x3, .int x4, .int x5, .long y6, .null, .long y8, .null, .long y10, .null, .long y12, .null, .long y14, .null, .long y16, .null, .long y18, .null, w20, .null] [] H Q = if (lg_cmp ((2 : Int64) * (y16 - (y18 * y6))) y6) ≤ 0 then jm_w S 1 245 91 [.ref r0, .long y1, .null, .int x3, .int x4, .int x5, .long y6, .null, .long y8, .null, .long y10, .null, .long y12, .null, .long y14, .null, .long y16, .null, .long y18, .null, .long (y16 - (y18 * y6)), .null] [] H Q else jm_w S 1 245 78 [.ref r0, .long y1, .null, .int x3, .int x4, .int x5, .long y6, .null, .long y8, .null, .long y10, .null, .long y12, .null, .long y14, .null, .long y16, .null, .long y18, .null, .long (y16 - (y18 * y6)), .null] [] H Q := (js1 at245_56 rfl rfl rfl).trans ((js1 at245_58 rfl rfl rfl).trans ((js1 at245_60 rfl rfl rfl).trans ((js0 at245_62 rfl rfl rfl).trans ((js0 at245_63 rfl rfl rfl).trans ((js1 at245_64 rfl rfl rfl).trans ((jsk2 at245_66 rv245l_406 rfl rfl).trans ((js1 at245_69 rfl rfl rfl).trans ((js0 at245_71 rfl rfl rfl).trans ((js1 at245_72 rfl rfl rfl).trans ((js0 at245_74 rfl rfl rfl).trans (jsif (P := (lg_cmp ((2 : Int64) * (y16 - (y18 * y6))) y6) ≤ 0) at245_75 rfl rfl)))))))))))
theorem at245_78 : jm_at 245 78 = some (.lload 18) := rfl
theorem at245_80 : jm_at 245 80 = some (.lconst 1) := rfl
theorem at245_81 : jm_at 245 81 = some (.ladd) := rfl
theorem at245_82 : jm_at 245 82 = some (.lstore 18) := rfl
theorem at245_84 : jm_at 245 84 = some (.lload 6) := rfl
theorem at245_86 : jm_at 245 86 = some (.lload 20) := rfl
theorem at245_88 : jm_at 245 88 = some (.lsub) := rfl
theorem at245_89 : jm_at 245 89 = some (.lstore 20) := rfl
theorem u245_78 {S : Option (Nat × (Nat → Int32))} {H : jm_H} {Q : Option Value → jm_H → Prop} {r0 : Nat} {y1 y6 y8 y10 y12 y14 y16 y18 y20 : Int64} {x3 x4 x5 : Int32} : jm_w S 1 245 78 [.ref r0, .long y1, .null, .int x3, .int x4, .int x5, .long y6, .null, .long y8, .null, .long y10, .null, .long y12, .null, .long y14, .null, .long y16, .null, .long y18, .null, .long y20, .null] [] H Q = jm_w S 1 245 91 [.ref r0, .long y1, .null, .int x3, .int x4, .int x5, .long y6, .null, .long y8, .null, .long y10, .null, .long y12, .null, .long y14, .null, .long y16, .null, .long (y18 + (1 : Int64)), .null, .long (y6 - y20), .null] [] H Q := (js1 at245_78 rfl rfl rfl).trans ((jscl at245_80 rfl rfl).trans ((js0 at245_81 rfl rfl rfl).trans ((js1 at245_82 rfl rfl rfl).trans ((js1 at245_84 rfl rfl rfl).trans ((js1 at245_86 rfl rfl rfl).trans ((js0 at245_88 rfl rfl rfl).trans (js1 at245_89 rfl rfl rfl)))))))
theorem at245_91 : jm_at 245 91 = some (.lload 10) := rfl
theorem at245_93 : jm_at 245 93 = some (.lconst 0) := rfl
theorem at245_94 : jm_at 245 94 = some (.lcmp) := rfl
theorem at245_95 : jm_at 245 95 = some (.ifCond .le 20) := rfl
theorem u245_91 {S : Option (Nat × (Nat → Int32))} {H : jm_H} {Q : Option Value → jm_H → Prop} {r0 : Nat} {y1 y6 y8 y10 y12 y14 y16 y18 y20 : Int64} {x3 x4 x5 : Int32} : jm_w S 1 245 91 [.ref r0, .long y1, .null, .int x3, .int x4, .int x5, .long y6, .null, .long y8, .null, .long y10, .null, .long y12, .null, .long y14, .null, .long y16, .null, .long y18, .null, .long y20, .null] [] H Q = if (lg_cmp y10 (0 : Int64)) ≤ 0 then jm_w S 1 245 115 [.ref r0, .long y1, .null, .int x3, .int x4, .int x5, .long y6, .null, .long y8, .null, .long y10, .null, .long y12, .null, .long y14, .null, .long y16, .null, .long y18, .null, .long y20, .null] [] H Q else jm_w S 1 245 98 [.ref r0, .long y1, .null, .int x3, .int x4, .int x5, .long y6, .null, .long y8, .null, .long y10, .null, .long y12, .null, .long y14, .null, .long y16, .null, .long y18, .null, .long y20, .null] [] H Q := (js1 at245_91 rfl rfl rfl).trans ((jscl at245_93 rfl rfl).trans ((js0 at245_94 rfl rfl rfl).trans (jsif (P := (lg_cmp y10 (0 : Int64)) ≤ 0) at245_95 rfl rfl)))
theorem at245_98 : jm_at 245 98 = some (.lload 20) := rfl
theorem at245_100 : jm_at 245 100 = some (.lload 10) := rfl
theorem at245_102 : jm_at 245 102 = some (.lmul) := rfl
theorem at245_103 : jm_at 245 103 = some (.lload 12) := rfl
theorem at245_105 : jm_at 245 105 = some (.lload 14) := rfl
theorem at245_107 : jm_at 245 107 = some (.lmul) := rfl
theorem at245_108 : jm_at 245 108 = some (.lcmp) := rfl
theorem at245_109 : jm_at 245 109 = some (.ifCond .lt 6) := rfl
theorem u245_98 {S : Option (Nat × (Nat → Int32))} {H : jm_H} {Q : Option Value → jm_H → Prop} {r0 : Nat} {y1 y6 y8 y10 y12 y14 y16 y18 y20 : Int64} {x3 x4 x5 : Int32} : jm_w S 1 245 98 [.ref r0, .long y1, .null, .int x3, .int x4, .int x5, .long y6, .null, .long y8, .null, .long y10, .null, .long y12, .null, .long y14, .null, .long y16, .null, .long y18, .null, .long y20, .null] [] H Q = if (lg_cmp (y20 * y10) (y12 * y14)) < 0 then jm_w S 1 245 115 [.ref r0, .long y1, .null, .int x3, .int x4, .int x5, .long y6, .null, .long y8, .null, .long y10, .null, .long y12, .null, .long y14, .null, .long y16, .null, .long y18, .null, .long y20, .null] [] H Q else jm_w S 1 245 112 [.ref r0, .long y1, .null, .int x3, .int x4, .int x5, .long y6, .null, .long y8, .null, .long y10, .null, .long y12, .null, .long y14, .null, .long y16, .null, .long y18, .null, .long y20, .null] [] H Q := (js1 at245_98 rfl rfl rfl).trans ((js1 at245_100 rfl rfl rfl).trans ((js0 at245_102 rfl rfl rfl).trans ((js1 at245_103 rfl rfl rfl).trans ((js1 at245_105 rfl rfl rfl).trans ((js0 at245_107 rfl rfl rfl).trans ((js0 at245_108 rfl rfl rfl).trans (jsif (P := (lg_cmp (y20 * y10) (y12 * y14)) < 0) at245_109 rfl rfl)))))))
theorem at245_112 : jm_at 245 112 = some (.goto 15) := rfl
theorem u245_112 {S : Option (Nat × (Nat → Int32))} {H : jm_H} {Q : Option Value → jm_H → Prop} {r0 : Nat} {y1 y6 y8 y10 y12 y14 y16 y18 y20 : Int64} {x3 x4 x5 : Int32} : jm_w S 1 245 112 [.ref r0, .long y1, .null, .int x3, .int x4, .int x5, .long y6, .null, .long y8, .null, .long y10, .null, .long y12, .null, .long y14, .null, .long y16, .null, .long y18, .null, .long y20, .null] [] H Q = jm_w S 1 245 127 [.ref r0, .long y1, .null, .int x3, .int x4, .int x5, .long y6, .null, .long y8, .null, .long y10, .null, .long y12, .null, .long y14, .null, .long y16, .null, .long y18, .null, .long y20, .null] [] H Q := js2 at245_112 rfl rfl
theorem at245_115 : jm_at 245 115 = some (.lload 18) := rfl
theorem at245_117 : jm_at 245 117 = some (.lstore 8) := rfl
theorem at245_119 : jm_at 245 119 = some (.lload 14) := rfl
theorem at245_121 : jm_at 245 121 = some (.lstore 10) := rfl
theorem at245_123 : jm_at 245 123 = some (.lload 20) := rfl
theorem at245_125 : jm_at 245 125 = some (.lstore 12) := rfl
theorem u245_115 {S : Option (Nat × (Nat → Int32))} {H : jm_H} {Q : Option Value → jm_H → Prop} {r0 : Nat} {y1 y6 y8 y10 y12 y14 y16 y18 y20 : Int64} {x3 x4 x5 : Int32} : jm_w S 1 245 115 [.ref r0, .long y1, .null, .int x3, .int x4, .int x5, .long y6, .null, .long y8, .null, .long y10, .null, .long y12, .null, .long y14, .null, .long y16, .null, .long y18, .null, .long y20, .null] [] H Q = jm_w S 1 245 127 [.ref r0, .long y1, .null, .int x3, .int x4, .int x5, .long y6, .null, .long y18, .null, .long y14, .null, .long y20, .null, .long y14, .null, .long y16, .null, .long y18, .null, .long y20, .null] [] H Q := (js1 at245_115 rfl rfl rfl).trans ((js1 at245_117 rfl rfl rfl).trans ((js1 at245_119 rfl rfl rfl).trans ((js1 at245_121 rfl rfl rfl).trans ((js1 at245_123 rfl rfl rfl).trans (js1 at245_125 rfl rfl rfl)))))
theorem at245_127 : jm_at 245 127 = some (.lload 14) := rfl
theorem at245_129 : jm_at 245 129 = some (.lconst 1) := rfl
theorem at245_130 : jm_at 245 130 = some (.ladd) := rfl
theorem at245_131 : jm_at 245 131 = some (.lstore 14) := rfl
theorem at245_133 : jm_at 245 133 = some (.goto (-116)) := rfl
theorem u245_127 {S : Option (Nat × (Nat → Int32))} {H : jm_H} {Q : Option Value → jm_H → Prop} {r0 : Nat} {y1 y6 y8 y10 y12 y14 y16 y18 y20 : Int64} {x3 x4 x5 : Int32} : jm_w S 1 245 127 [.ref r0, .long y1, .null, .int x3, .int x4, .int x5, .long y6, .null, .long y8, .null, .long y10, .null, .long y12, .null, .long y14, .null, .long y16, .null, .long y18, .null, .long y20, .null] [] H Q = jm_w S 1 245 17 [.ref r0, .long y1, .null, .int x3, .int x4, .int x5, .long y6, .null, .long y8, .null, .long y10, .null, .long y12, .null, .long (y14 + (1 : Int64)), .null, .long y16, .null, .long y18, .null, .long y20, .null] [] H Q := (js1 at245_127 rfl rfl rfl).trans ((jscl at245_129 rfl rfl).trans ((js0 at245_130 rfl rfl rfl).trans ((js1 at245_131 rfl rfl rfl).trans (js2 at245_133 rfl rfl))))
theorem at245_136 : jm_at 245 136 = some (.iload 5) := rfl
theorem at245_138 : jm_at 245 138 = some (.ifCond .ne 8) := rfl
theorem u245_136 {S : Option (Nat × (Nat → Int32))} {H : jm_H} {Q : Option Value → jm_H → Prop} {r0 : Nat} {y1 y6 y8 y10 y12 y14 : Int64} {x3 x4 x5 : Int32} {w16 w18 w20 : Value} : jm_w S 1 245 136 [.ref r0, .long y1, .null, .int x3, .int x4, .int x5, .long y6, .null, .long y8, .null, .long y10, .null, .long y12, .null, .long y14, .null, w16, .null, w18, .null, w20, .null] [] H Q = if ¬ x5 = 0 then jm_w S 1 245 146 [.ref r0, .long y1, .null, .int x3, .int x4, .int x5, .long y6, .null, .long y8, .null, .long y10, .null, .long y12, .null, .long y14, .null, w16, .null, w18, .null, w20, .null] [] H Q else jm_w S 1 245 141 [.ref r0, .long y1, .null, .int x3, .int x4, .int x5, .long y6, .null, .long y8, .null, .long y10, .null, .long y12, .null, .long y14, .null, w16, .null, w18, .null, w20, .null] [] H Q := (js1 at245_136 rfl rfl rfl).trans (jsif (P := ¬ x5 = 0) at245_138 rfl rfl)
theorem at245_141 : jm_at 245 141 = some (.lload 8) := rfl
theorem at245_143 : jm_at 245 143 = some (.goto 5) := rfl
theorem u245_141 {S : Option (Nat × (Nat → Int32))} {H : jm_H} {Q : Option Value → jm_H → Prop} {r0 : Nat} {y1 y6 y8 y10 y12 y14 : Int64} {x3 x4 x5 : Int32} {w16 w18 w20 : Value} : jm_w S 1 245 141 [.ref r0, .long y1, .null, .int x3, .int x4, .int x5, .long y6, .null, .long y8, .null, .long y10, .null, .long y12, .null, .long y14, .null, w16, .null, w18, .null, w20, .null] [] H Q = jm_w S 1 245 148 [.ref r0, .long y1, .null, .int x3, .int x4, .int x5, .long y6, .null, .long y8, .null, .long y10, .null, .long y12, .null, .long y14, .null, w16, .null, w18, .null, w20, .null] [.long y8] H Q := (js1 at245_141 rfl rfl rfl).trans (js2 at245_143 rfl rfl)
theorem at245_146 : jm_at 245 146 = some (.lload 10) := rfl
theorem u245_146 {S : Option (Nat × (Nat → Int32))} {H : jm_H} {Q : Option Value → jm_H → Prop} {r0 : Nat} {y1 y6 y8 y10 y12 y14 : Int64} {x3 x4 x5 : Int32} {w16 w18 w20 : Value} : jm_w S 1 245 146 [.ref r0, .long y1, .null, .int x3, .int x4, .int x5, .long y6, .null, .long y8, .null, .long y10, .null, .long y12, .null, .long y14, .null, w16, .null, w18, .null, w20, .null] [] H Q = jm_w S 1 245 148 [.ref r0, .long y1, .null, .int x3, .int x4, .int x5, .long y6, .null, .long y8, .null, .long y10, .null, .long y12, .null, .long y14, .null, w16, .null, w18, .null, w20, .null] [.long y10] H Q := js1 at245_146 rfl rfl rfl
theorem at245_148 : jm_at 245 148 = some (.lreturn) := rfl
theorem u245_148 {S : Option (Nat × (Nat → Int32))} {H : jm_H} {Q : Option Value → jm_H → Prop} {r0 : Nat} {y1 y6 y8 y10 y12 y14 q0 : Int64} {x3 x4 x5 : Int32} {w16 w18 w20 : Value} : jm_w S 1 245 148 [.ref r0, .long y1, .null, .int x3, .int x4, .int x5, .long y6, .null, .long y8, .null, .long y10, .null, .long y12, .null, .long y14, .null, w16, .null, w18, .null, w20, .null] [.long q0] H Q = Q (some (.long q0)) H := jsret_l at245_148 rfl
theorem en245 {S : Option (Nat × (Nat → Int32))} {H : jm_H} {Q : Option Value → jm_H → Prop} {r0 : Nat} {y1 : Int64} {x3 x4 x5 : Int32} : jm_c S 245 [.ref r0, .long y1, .int x3, .int x4, .int x5] H Q = jm_w S 1 245 0 [.ref r0, .long y1, .null, .int x3, .int x4, .int x5, .null, .null, .null, .null, .null, .null, .null, .null, .null, .null, .null, .null, .null, .null, .null, .null] [] H Q := rfl
theorem at246_0 : jm_at 246 0 = some (.iload_n 1) := rfl
theorem at246_1 : jm_at 246 1 = some (.bipush (-100)) := rfl
theorem at246_3 : jm_at 246 3 = some (.bipush 100) := rfl
theorem at246_5 : jm_at 246 5 = some (.invokestatic 218) := rfl
theorem rv246i_218 : jm_rv 246 (.invokestatic 218) = (1, 176, 0, 0) := rfl
theorem u246_0 {S : Option (Nat × (Nat → Int32))} {H : jm_H} {Q : Option Value → jm_H → Prop} {r0 : Nat} {x1 : Int32} : jm_w S 2 246 0 [.ref r0, .int x1, .null] [] H Q = jm_c S 176 [.int x1, .int (-100 : Int32), .int (100 : Int32)] H (fun v G => jm_w S 2 246 8 [.ref r0, .int x1, .null] (v.toList ++ []) G Q) := (js1 at246_0 rfl rfl rfl).trans ((jscb at246_1 rfl rfl).trans ((jscb at246_3 rfl rfl).trans (jscall (H := H) (as := [.int x1, .int (-100 : Int32), .int (100 : Int32)]) (q := []) at246_5 rfl rv246i_218 (jscut rfl rfl rfl (Nat.le_of_ble_eq_true rfl)) rfl (Nat.le_of_ble_eq_true rfl) rfl rfl)))
theorem at246_8 : jm_at 246 8 = some (.ifCond .ne 5) := rfl
theorem u246_8 {S : Option (Nat × (Nat → Int32))} {H : jm_H} {Q : Option Value → jm_H → Prop} {r0 : Nat} {x1 p0 : Int32} : jm_w S 2 246 8 [.ref r0, .int x1, .null] [.int p0] H Q = if ¬ p0 = 0 then jm_w S 2 246 13 [.ref r0, .int x1, .null] [] H Q else jm_w S 2 246 11 [.ref r0, .int x1, .null] [] H Q := jsif (P := ¬ p0 = 0) at246_8 rfl rfl
theorem at246_11 : jm_at 246 11 = some (.iconst (-1)) := rfl
theorem at246_12 : jm_at 246 12 = some (.ireturn) := rfl
theorem u246_11 {S : Option (Nat × (Nat → Int32))} {H : jm_H} {Q : Option Value → jm_H → Prop} {r0 : Nat} {x1 : Int32} : jm_w S 2 246 11 [.ref r0, .int x1, .null] [] H Q = Q (some (.int (-1 : Int32))) H := (jsci at246_11 rfl rfl).trans (jsret_i at246_12 rfl)
theorem at246_13 : jm_at 246 13 = some (.aload_n 0) := rfl
theorem at246_14 : jm_at 246 14 = some (.getfield 40) := rfl
theorem rv246g_40 : jm_rv 246 (.getfield 40) = (0, 12, 17, 0) := rfl
theorem at246_17 : jm_at 246 17 = some (.iconst 3) := rfl
theorem at246_18 : jm_at 246 18 = some (.iaload) := rfl
theorem at246_19 : jm_at 246 19 = some (.iconst 1) := rfl
theorem at246_20 : jm_at 246 20 = some (.if_icmp .ne 6) := rfl
theorem u246_13 {S : Option (Nat × (Nat → Int32))} {H : jm_H} {Q : Option Value → jm_H → Prop} {r0 : Nat} {x1 : Int32} (h0 : jm_tg H r0 = 13) (h1 : ¬ jm_R H r0 17 = 0) (h2 : ¬ ((3 : Int32) < 0 ∨ jm_ln H (jm_R H r0 17) ≤ Int32.toNatClampNeg (3 : Int32))) (h3 : ¬ (jm_R H r0 17) = 1) (h4 : jm_tg H (jm_R H r0 17) = 100) : jm_w S 2 246 13 [.ref r0, .int x1, .null] [] H Q = if ¬ (jm_I H (jm_R H r0 17) (Int32.toNatClampNeg (3 : Int32))) = (1 : Int32) then jm_w S 2 246 26 [.ref r0, .int x1, .null] [] H Q else jm_w S 2 246 23 [.ref r0, .int x1, .null] [] H Q := (js1 at246_13 rfl rfl rfl).trans ((jsgR (H := H) at246_14 rv246g_40 rfl h0 h1 rfl).trans ((jsci at246_17 rfl rfl).trans ((jsial (H := H) at246_18 h3 h4 h2 rfl).trans ((jsci at246_19 rfl rfl).trans (jsif (P := ¬ (jm_I H (jm_R H r0 17) (Int32.toNatClampNeg (3 : Int32))) = (1 : Int32)) at246_20 rfl rfl)))))
theorem at246_23 : jm_at 246 23 = some (.bipush (-2)) := rfl
theorem at246_25 : jm_at 246 25 = some (.ireturn) := rfl
theorem u246_23 {S : Option (Nat × (Nat → Int32))} {H : jm_H} {Q : Option Value → jm_H → Prop} {r0 : Nat} {x1 : Int32} : jm_w S 2 246 23 [.ref r0, .int x1, .null] [] H Q = Q (some (.int (-2 : Int32))) H := (jscb at246_23 rfl rfl).trans (jsret_i at246_25 rfl)
theorem at246_26 : jm_at 246 26 = some (.iload_n 1) := rfl
theorem at246_27 : jm_at 246 27 = some (.bipush 112) := rfl
theorem at246_29 : jm_at 246 29 = some (.iadd) := rfl
theorem at246_30 : jm_at 246 30 = some (.istore_n 2) := rfl
theorem at246_31 : jm_at 246 31 = some (.aload_n 0) := rfl
theorem at246_32 : jm_at 246 32 = some (.getfield 40) := rfl
theorem at246_35 : jm_at 246 35 = some (.iconst 4) := rfl
theorem at246_36 : jm_at 246 36 = some (.iload_n 2) := rfl
theorem at246_37 : jm_at 246 37 = some (.bipush 16) := rfl
theorem at246_39 : jm_at 246 39 = some (.idiv) := rfl
theorem at246_40 : jm_at 246 40 = some (.iadd) := rfl
theorem at246_41 : jm_at 246 41 = some (.iaload) := rfl
theorem at246_42 : jm_at 246 42 = some (.iload_n 2) := rfl
theorem at246_43 : jm_at 246 43 = some (.bipush 16) := rfl
theorem at246_45 : jm_at 246 45 = some (.irem) := rfl
theorem at246_46 : jm_at 246 46 = some (.ishr) := rfl
theorem at246_47 : jm_at 246 47 = some (.iconst 1) := rfl
theorem at246_48 : jm_at 246 48 = some (.iand) := rfl
theorem at246_49 : jm_at 246 49 = some (.ireturn) := rfl
theorem u246_26 {S : Option (Nat × (Nat → Int32))} {H : jm_H} {Q : Option Value → jm_H → Prop} {r0 : Nat} {x1 : Int32} (h0 : jm_tg H r0 = 13) (h1 : ¬ jm_R H r0 17 = 0) (h2 : ¬ (((4 : Int32) + ((x1 + (112 : Int32)) / (16 : Int32))) < 0 ∨ jm_ln H (jm_R H r0 17) ≤ Int32.toNatClampNeg ((4 : Int32) + ((x1 + (112 : Int32)) / (16 : Int32))))) (h3 : ¬ (jm_R H r0 17) = 1) (h4 : jm_tg H (jm_R H r0 17) = 100) : jm_w S 2 246 26 [.ref r0, .int x1, .null] [] H Q = Q (some (.int (((jm_I H (jm_R H r0 17) (Int32.toNatClampNeg ((4 : Int32) + ((x1 + (112 : Int32)) / (16 : Int32))))) >>> (((x1 + (112 : Int32)) - (x1 + (112 : Int32)) / (16 : Int32) * (16 : Int32)) &&& 31)) &&& (1 : Int32)))) H := (js1 at246_26 rfl rfl rfl).trans ((jscb at246_27 rfl rfl).trans ((js0 at246_29 rfl rfl rfl).trans ((js1 at246_30 rfl rfl rfl).trans ((js1 at246_31 rfl rfl rfl).trans ((jsgR (H := H) at246_32 rv246g_40 rfl h0 h1 rfl).trans ((jsci at246_35 rfl rfl).trans ((js1 at246_36 rfl rfl rfl).trans ((jscb at246_37 rfl rfl).trans ((jsidiv at246_39 (by decide) rfl).trans ((js0 at246_40 rfl rfl rfl).trans ((jsial (H := H) at246_41 h3 h4 h2 rfl).trans ((js1 at246_42 rfl rfl rfl).trans ((jscb at246_43 rfl rfl).trans ((jsirem at246_45 (by decide) rfl).trans ((js0 at246_46 rfl rfl rfl).trans ((jsci at246_47 rfl rfl).trans ((js0 at246_48 rfl rfl rfl).trans (jsret_i at246_49 rfl))))))))))))))))))
theorem en246 {S : Option (Nat × (Nat → Int32))} {H : jm_H} {Q : Option Value → jm_H → Prop} {r0 : Nat} {x1 : Int32} : jm_c S 246 [.ref r0, .int x1] H Q = jm_w S 2 246 0 [.ref r0, .int x1, .null] [] H Q := rfl
theorem at247_0 : jm_at 247 0 = some (.iload_n 1) := rfl
theorem at247_1 : jm_at 247 1 = some (.iload_n 2) := rfl
theorem at247_2 : jm_at 247 2 = some (.invokestatic 290) := rfl
theorem rv247i_290 : jm_rv 247 (.invokestatic 290) = (1, 217, 0, 0) := rfl
theorem u247_0 {S : Option (Nat × (Nat → Int32))} {H : jm_H} {Q : Option Value → jm_H → Prop} {r0 : Nat} {x1 x2 : Int32} : jm_w S 6 247 0 [.ref r0, .int x1, .int x2] [] H Q = jm_c S 217 [.int x1, .int x2] H (fun v G => jm_w S 6 247 5 [.ref r0, .int x1, .int x2] (v.toList ++ []) G Q) := (js1 at247_0 rfl rfl rfl).trans ((js1 at247_1 rfl rfl rfl).trans (jscall (H := H) (as := [.int x1, .int x2]) (q := []) at247_2 rfl rv247i_290 (jscut rfl rfl rfl (Nat.le_of_ble_eq_true rfl)) rfl (Nat.le_of_ble_eq_true rfl) rfl rfl))
theorem at247_5 : jm_at 247 5 = some (.ifCond .ne 5) := rfl
theorem u247_5 {S : Option (Nat × (Nat → Int32))} {H : jm_H} {Q : Option Value → jm_H → Prop} {r0 : Nat} {x1 x2 p0 : Int32} : jm_w S 6 247 5 [.ref r0, .int x1, .int x2] [.int p0] H Q = if ¬ p0 = 0 then jm_w S 6 247 10 [.ref r0, .int x1, .int x2] [] H Q else jm_w S 6 247 8 [.ref r0, .int x1, .int x2] [] H Q := jsif (P := ¬ p0 = 0) at247_5 rfl rfl
theorem at247_8 : jm_at 247 8 = some (.iconst (-1)) := rfl
theorem at247_9 : jm_at 247 9 = some (.ireturn) := rfl
theorem u247_8 {S : Option (Nat × (Nat → Int32))} {H : jm_H} {Q : Option Value → jm_H → Prop} {r0 : Nat} {x1 x2 : Int32} : jm_w S 6 247 8 [.ref r0, .int x1, .int x2] [] H Q = Q (some (.int (-1 : Int32))) H := (jsci at247_8 rfl rfl).trans (jsret_i at247_9 rfl)
theorem at247_10 : jm_at 247 10 = some (.aload_n 0) := rfl
theorem at247_11 : jm_at 247 11 = some (.getfield 40) := rfl
theorem rv247g_40 : jm_rv 247 (.getfield 40) = (0, 12, 17, 0) := rfl
theorem at247_14 : jm_at 247 14 = some (.iconst 3) := rfl
theorem at247_15 : jm_at 247 15 = some (.iaload) := rfl
theorem at247_16 : jm_at 247 16 = some (.iconst 1) := rfl
theorem at247_17 : jm_at 247 17 = some (.if_icmp .ne 8) := rfl
theorem u247_10 {S : Option (Nat × (Nat → Int32))} {H : jm_H} {Q : Option Value → jm_H → Prop} {r0 : Nat} {x1 x2 : Int32} (h0 : jm_tg H r0 = 13) (h1 : ¬ jm_R H r0 17 = 0) (h2 : ¬ ((3 : Int32) < 0 ∨ jm_ln H (jm_R H r0 17) ≤ Int32.toNatClampNeg (3 : Int32))) (h3 : ¬ (jm_R H r0 17) = 1) (h4 : jm_tg H (jm_R H r0 17) = 100) : jm_w S 6 247 10 [.ref r0, .int x1, .int x2] [] H Q = if ¬ (jm_I H (jm_R H r0 17) (Int32.toNatClampNeg (3 : Int32))) = (1 : Int32) then jm_w S 6 247 25 [.ref r0, .int x1, .int x2] [] H Q else jm_w S 6 247 20 [.ref r0, .int x1, .int x2] [] H Q := (js1 at247_10 rfl rfl rfl).trans ((jsgR (H := H) at247_11 rv247g_40 rfl h0 h1 rfl).trans ((jsci at247_14 rfl rfl).trans ((jsial (H := H) at247_15 h3 h4 h2 rfl).trans ((jsci at247_16 rfl rfl).trans (jsif (P := ¬ (jm_I H (jm_R H r0 17) (Int32.toNatClampNeg (3 : Int32))) = (1 : Int32)) at247_17 rfl rfl)))))
theorem at247_20 : jm_at 247 20 = some (.iload_n 1) := rfl
theorem at247_21 : jm_at 247 21 = some (.invokestatic 280) := rfl
theorem rv247i_280 : jm_rv 247 (.invokestatic 280) = (1, 191, 0, 0) := rfl
theorem u247_20 {S : Option (Nat × (Nat → Int32))} {H : jm_H} {Q : Option Value → jm_H → Prop} {r0 : Nat} {x1 x2 : Int32} : jm_w S 6 247 20 [.ref r0, .int x1, .int x2] [] H Q = jm_c S 191 [.int x1] H (fun v G => jm_w S 6 247 24 [.ref r0, .int x1, .int x2] (v.toList ++ []) G Q) := (js1 at247_20 rfl rfl rfl).trans (jscall (H := H) (as := [.int x1]) (q := []) at247_21 rfl rv247i_280 (jscut rfl rfl rfl (Nat.le_of_ble_eq_true rfl)) rfl (Nat.le_of_ble_eq_true rfl) rfl rfl)
theorem at247_24 : jm_at 247 24 = some (.ireturn) := rfl
theorem u247_24 {S : Option (Nat × (Nat → Int32))} {H : jm_H} {Q : Option Value → jm_H → Prop} {r0 : Nat} {x1 x2 p0 : Int32} : jm_w S 6 247 24 [.ref r0, .int x1, .int x2] [.int p0] H Q = Q (some (.int p0)) H := jsret_i at247_24 rfl
theorem at247_25 : jm_at 247 25 = some (.aload_n 0) := rfl
theorem at247_26 : jm_at 247 26 = some (.invokevirtual 305) := rfl
theorem rv247i_305 : jm_rv 247 (.invokevirtual 305) = (2, 221, 0, 0) := rfl
theorem u247_25 {S : Option (Nat × (Nat → Int32))} {H : jm_H} {Q : Option Value → jm_H → Prop} {r0 : Nat} {x1 x2 : Int32} (h0 : jm_tg H r0 = 13) : jm_w S 6 247 25 [.ref r0, .int x1, .int x2] [] H Q = jm_c S 221 [.ref r0] H (fun v G => jm_w S 6 247 29 [.ref r0, .int x1, .int x2] (v.toList ++ []) G Q) := (js1 at247_25 rfl rfl rfl).trans (jscall (H := H) (as := [.ref r0]) (q := []) at247_26 rfl rv247i_305 (jscutV rfl rfl rfl (Nat.le_of_ble_eq_true rfl) rfl h0) rfl (Nat.le_of_ble_eq_true rfl) rfl rfl)
theorem at247_29 : jm_at 247 29 = some (.aload_n 0) := rfl
theorem at247_30 : jm_at 247 30 = some (.iload_n 1) := rfl
theorem at247_31 : jm_at 247 31 = some (.iload_n 2) := rfl
theorem at247_32 : jm_at 247 32 = some (.invokevirtual 287) := rfl
theorem rv247i_287 : jm_rv 247 (.invokevirtual 287) = (2, 208, 0, 0) := rfl
theorem u247_29 {S : Option (Nat × (Nat → Int32))} {H : jm_H} {Q : Option Value → jm_H → Prop} {r0 : Nat} {x1 x2 : Int32} (h0 : jm_tg H r0 = 13) : jm_w S 6 247 29 [.ref r0, .int x1, .int x2] [] H Q = jm_c S 208 [.ref r0, .int x1, .int x2] H (fun v G => jm_w S 6 247 35 [.ref r0, .int x1, .int x2] (v.toList ++ []) G Q) := (js1 at247_29 rfl rfl rfl).trans ((js1 at247_30 rfl rfl rfl).trans ((js1 at247_31 rfl rfl rfl).trans (jscall (H := H) (as := [.ref r0, .int x1, .int x2]) (q := []) at247_32 rfl rv247i_287 (jscutV rfl rfl rfl (Nat.le_of_ble_eq_true rfl) rfl h0) rfl (Nat.le_of_ble_eq_true rfl) rfl rfl)))
theorem at247_35 : jm_at 247 35 = some (.ireturn) := rfl
theorem u247_35 {S : Option (Nat × (Nat → Int32))} {H : jm_H} {Q : Option Value → jm_H → Prop} {r0 : Nat} {x1 x2 p0 : Int32} : jm_w S 6 247 35 [.ref r0, .int x1, .int x2] [.int p0] H Q = Q (some (.int p0)) H := jsret_i at247_35 rfl
theorem en247 {S : Option (Nat × (Nat → Int32))} {H : jm_H} {Q : Option Value → jm_H → Prop} {r0 : Nat} {x1 x2 : Int32} : jm_c S 247 [.ref r0, .int x1, .int x2] H Q = jm_w S 6 247 0 [.ref r0, .int x1, .int x2] [] H Q := rfl
theorem at248_0 : jm_at 248 0 = some (.iload_n 1) := rfl
theorem at248_1 : jm_at 248 1 = some (.iload_n 2) := rfl
theorem at248_2 : jm_at 248 2 = some (.invokestatic 290) := rfl
theorem rv248i_290 : jm_rv 248 (.invokestatic 290) = (1, 217, 0, 0) := rfl
theorem u248_0 {S : Option (Nat × (Nat → Int32))} {H : jm_H} {Q : Option Value → jm_H → Prop} {r0 : Nat} {x1 x2 x3 : Int32} : jm_w S 7 248 0 [.ref r0, .int x1, .int x2, .int x3, .null, .null, .null, .null] [] H Q = jm_c S 217 [.int x1, .int x2] H (fun v G => jm_w S 7 248 5 [.ref r0, .int x1, .int x2, .int x3, .null, .null, .null, .null] (v.toList ++ []) G Q) := (js1 at248_0 rfl rfl rfl).trans ((js1 at248_1 rfl rfl rfl).trans (jscall (H := H) (as := [.int x1, .int x2]) (q := []) at248_2 rfl rv248i_290 (jscut rfl rfl rfl (Nat.le_of_ble_eq_true rfl)) rfl (Nat.le_of_ble_eq_true rfl) rfl rfl))
theorem at248_5 : jm_at 248 5 = some (.ifCond .eq 12) := rfl
theorem u248_5 {S : Option (Nat × (Nat → Int32))} {H : jm_H} {Q : Option Value → jm_H → Prop} {r0 : Nat} {x1 x2 x3 p0 : Int32} : jm_w S 7 248 5 [.ref r0, .int x1, .int x2, .int x3, .null, .null, .null, .null] [.int p0] H Q = if p0 = 0 then jm_w S 7 248 17 [.ref r0, .int x1, .int x2, .int x3, .null, .null, .null, .null] [] H Q else jm_w S 7 248 8 [.ref r0, .int x1, .int x2, .int x3, .null, .null, .null, .null] [] H Q := jsif (P := p0 = 0) at248_5 rfl rfl
theorem at248_8 : jm_at 248 8 = some (.iload_n 3) := rfl
theorem at248_9 : jm_at 248 9 = some (.iconst 0) := rfl
theorem at248_10 : jm_at 248 10 = some (.iconst 2) := rfl
theorem at248_11 : jm_at 248 11 = some (.invokestatic 218) := rfl
theorem rv248i_218 : jm_rv 248 (.invokestatic 218) = (1, 176, 0, 0) := rfl
theorem u248_8 {S : Option (Nat × (Nat → Int32))} {H : jm_H} {Q : Option Value → jm_H → Prop} {r0 : Nat} {x1 x2 x3 : Int32} : jm_w S 7 248 8 [.ref r0, .int x1, .int x2, .int x3, .null, .null, .null, .null] [] H Q = jm_c S 176 [.int x3, .int (0 : Int32), .int (2 : Int32)] H (fun v G => jm_w S 7 248 14 [.ref r0, .int x1, .int x2, .int x3, .null, .null, .null, .null] (v.toList ++ []) G Q) := (js1 at248_8 rfl rfl rfl).trans ((jsci at248_9 rfl rfl).trans ((jsci at248_10 rfl rfl).trans (jscall (H := H) (as := [.int x3, .int (0 : Int32), .int (2 : Int32)]) (q := []) at248_11 rfl rv248i_218 (jscut rfl rfl rfl (Nat.le_of_ble_eq_true rfl)) rfl (Nat.le_of_ble_eq_true rfl) rfl rfl)))
theorem at248_14 : jm_at 248 14 = some (.ifCond .ne 5) := rfl
theorem u248_14 {S : Option (Nat × (Nat → Int32))} {H : jm_H} {Q : Option Value → jm_H → Prop} {r0 : Nat} {x1 x2 x3 p0 : Int32} : jm_w S 7 248 14 [.ref r0, .int x1, .int x2, .int x3, .null, .null, .null, .null] [.int p0] H Q = if ¬ p0 = 0 then jm_w S 7 248 19 [.ref r0, .int x1, .int x2, .int x3, .null, .null, .null, .null] [] H Q else jm_w S 7 248 17 [.ref r0, .int x1, .int x2, .int x3, .null, .null, .null, .null] [] H Q := jsif (P := ¬ p0 = 0) at248_14 rfl rfl
theorem at248_17 : jm_at 248 17 = some (.iconst (-1)) := rfl
theorem at248_18 : jm_at 248 18 = some (.ireturn) := rfl
theorem u248_17 {S : Option (Nat × (Nat → Int32))} {H : jm_H} {Q : Option Value → jm_H → Prop} {r0 : Nat} {x1 x2 x3 : Int32} : jm_w S 7 248 17 [.ref r0, .int x1, .int x2, .int x3, .null, .null, .null, .null] [] H Q = Q (some (.int (-1 : Int32))) H := (jsci at248_17 rfl rfl).trans (jsret_i at248_18 rfl)
theorem at248_19 : jm_at 248 19 = some (.iload_n 1) := rfl
theorem at248_20 : jm_at 248 20 = some (.bipush 6) := rfl
theorem at248_22 : jm_at 248 22 = some (.if_icmp .le 6) := rfl
theorem u248_19 {S : Option (Nat × (Nat → Int32))} {H : jm_H} {Q : Option Value → jm_H → Prop} {r0 : Nat} {x1 x2 x3 : Int32} : jm_w S 7 248 19 [.ref r0, .int x1, .int x2, .int x3, .null, .null, .null, .null] [] H Q = if x1 ≤ (6 : Int32) then jm_w S 7 248 28 [.ref r0, .int x1, .int x2, .int x3, .null, .null, .null, .null] [] H Q else jm_w S 7 248 25 [.ref r0, .int x1, .int x2, .int x3, .null, .null, .null, .null] [] H Q := (js1 at248_19 rfl rfl rfl).trans ((jscb at248_20 rfl rfl).trans (jsif (P := x1 ≤ (6 : Int32)) at248_22 rfl rfl))
theorem at248_25 : jm_at 248 25 = some (.bipush (-2)) := rfl
theorem at248_27 : jm_at 248 27 = some (.ireturn) := rfl
theorem u248_25 {S : Option (Nat × (Nat → Int32))} {H : jm_H} {Q : Option Value → jm_H → Prop} {r0 : Nat} {x1 x2 x3 : Int32} : jm_w S 7 248 25 [.ref r0, .int x1, .int x2, .int x3, .null, .null, .null, .null] [] H Q = Q (some (.int (-2 : Int32))) H := (jscb at248_25 rfl rfl).trans (jsret_i at248_27 rfl)
theorem at248_28 : jm_at 248 28 = some (.iconst 0) := rfl
theorem at248_29 : jm_at 248 29 = some (.istore 4) := rfl
theorem at248_31 : jm_at 248 31 = some (.iconst 0) := rfl
theorem at248_32 : jm_at 248 32 = some (.istore 5) := rfl
theorem u248_28 {S : Option (Nat × (Nat → Int32))} {H : jm_H} {Q : Option Value → jm_H → Prop} {r0 : Nat} {x1 x2 x3 : Int32} : jm_w S 7 248 28 [.ref r0, .int x1, .int x2, .int x3, .null, .null, .null, .null] [] H Q = jm_w S 7 248 34 [.ref r0, .int x1, .int x2, .int x3, .int (0 : Int32), .int (0 : Int32), .null, .null] [] H Q := (jsci at248_28 rfl rfl).trans ((js1 at248_29 rfl rfl rfl).trans ((jsci at248_31 rfl rfl).trans (js1 at248_32 rfl rfl rfl)))
theorem at248_34 : jm_at 248 34 = some (.iload 5) := rfl
theorem at248_36 : jm_at 248 36 = some (.iconst 1) := rfl
theorem at248_37 : jm_at 248 37 = some (.iload_n 1) := rfl
theorem at248_38 : jm_at 248 38 = some (.ishl) := rfl
theorem at248_39 : jm_at 248 39 = some (.if_icmp .ge 89) := rfl
theorem u248_34 {S : Option (Nat × (Nat → Int32))} {H : jm_H} {Q : Option Value → jm_H → Prop} {r0 : Nat} {x1 x2 x3 x4 x5 : Int32} {w6 w7 : Value} : jm_w S 7 248 34 [.ref r0, .int x1, .int x2, .int x3, .int x4, .int x5, w6, w7] [] H Q = if ((1 : Int32) <<< (x1 &&& 31)) ≤ x5 then jm_w S 7 248 128 [.ref r0, .int x1, .int x2, .int x3, .int x4, .int x5, w6, w7] [] H Q else jm_w S 7 248 42 [.ref r0, .int x1, .int x2, .int x3, .int x4, .int x5, w6, w7] [] H Q := (js1 at248_34 rfl rfl rfl).trans ((jsci at248_36 rfl rfl).trans ((js1 at248_37 rfl rfl rfl).trans ((js0 at248_38 rfl rfl rfl).trans (jsif (P := ((1 : Int32) <<< (x1 &&& 31)) ≤ x5) at248_39 rfl rfl))))
theorem at248_42 : jm_at 248 42 = some (.iconst 0) := rfl
theorem at248_43 : jm_at 248 43 = some (.istore 6) := rfl
theorem u248_42 {S : Option (Nat × (Nat → Int32))} {H : jm_H} {Q : Option Value → jm_H → Prop} {r0 : Nat} {x1 x2 x3 x4 x5 : Int32} {w6 w7 : Value} : jm_w S 7 248 42 [.ref r0, .int x1, .int x2, .int x3, .int x4, .int x5, w6, w7] [] H Q = jm_w S 7 248 45 [.ref r0, .int x1, .int x2, .int x3, .int x4, .int x5, .int (0 : Int32), w7] [] H Q := (jsci at248_42 rfl rfl).trans (js1 at248_43 rfl rfl rfl)
theorem at248_45 : jm_at 248 45 = some (.iload 6) := rfl
theorem at248_47 : jm_at 248 47 = some (.iconst 1) := rfl
theorem at248_48 : jm_at 248 48 = some (.iload_n 1) := rfl
theorem at248_49 : jm_at 248 49 = some (.ishl) := rfl
theorem at248_50 : jm_at 248 50 = some (.if_icmp .ge 72) := rfl
theorem u248_45 {S : Option (Nat × (Nat → Int32))} {H : jm_H} {Q : Option Value → jm_H → Prop} {r0 : Nat} {x1 x2 x3 x4 x5 x6 : Int32} {w7 : Value} : jm_w S 7 248 45 [.ref r0, .int x1, .int x2, .int x3, .int x4, .int x5, .int x6, w7] [] H Q = if ((1 : Int32) <<< (x1 &&& 31)) ≤ x6 then jm_w S 7 248 122 [.ref r0, .int x1, .int x2, .int x3, .int x4, .int x5, .int x6, w7] [] H Q else jm_w S 7 248 53 [.ref r0, .int x1, .int x2, .int x3, .int x4, .int x5, .int x6, w7] [] H Q := (js1 at248_45 rfl rfl rfl).trans ((jsci at248_47 rfl rfl).trans ((js1 at248_48 rfl rfl rfl).trans ((js0 at248_49 rfl rfl rfl).trans (jsif (P := ((1 : Int32) <<< (x1 &&& 31)) ≤ x6) at248_50 rfl rfl))))
theorem at248_53 : jm_at 248 53 = some (.iload_n 1) := rfl
theorem at248_54 : jm_at 248 54 = some (.iload 5) := rfl
theorem at248_56 : jm_at 248 56 = some (.invokestatic 276) := rfl
theorem rv248i_276 : jm_rv 248 (.invokestatic 276) = (1, 204, 0, 0) := rfl
theorem u248_53 {S : Option (Nat × (Nat → Int32))} {H : jm_H} {Q : Option Value → jm_H → Prop} {r0 : Nat} {x1 x2 x3 x4 x5 x6 : Int32} {w7 : Value} : jm_w S 7 248 53 [.ref r0, .int x1, .int x2, .int x3, .int x4, .int x5, .int x6, w7] [] H Q = jm_c S 204 [.int x1, .int x5] H (fun v G => jm_w S 7 248 59 [.ref r0, .int x1, .int x2, .int x3, .int x4, .int x5, .int x6, w7] (v.toList ++ []) G Q) := (js1 at248_53 rfl rfl rfl).trans ((js1 at248_54 rfl rfl rfl).trans (jscall (H := H) (as := [.int x1, .int x5]) (q := []) at248_56 rfl rv248i_276 (jscut rfl rfl rfl (Nat.le_of_ble_eq_true rfl)) rfl (Nat.le_of_ble_eq_true rfl) rfl rfl))
theorem at248_59 : jm_at 248 59 = some (.ifCond .ne 57) := rfl
theorem u248_59 {S : Option (Nat × (Nat → Int32))} {H : jm_H} {Q : Option Value → jm_H → Prop} {r0 : Nat} {x1 x2 x3 x4 x5 x6 p0 : Int32} {w7 : Value} : jm_w S 7 248 59 [.ref r0, .int x1, .int x2, .int x3, .int x4, .int x5, .int x6, w7] [.int p0] H Q = if ¬ p0 = 0 then jm_w S 7 248 116 [.ref r0, .int x1, .int x2, .int x3, .int x4, .int x5, .int x6, w7] [] H Q else jm_w S 7 248 62 [.ref r0, .int x1, .int x2, .int x3, .int x4, .int x5, .int x6, w7] [] H Q := jsif (P := ¬ p0 = 0) at248_59 rfl rfl
theorem at248_62 : jm_at 248 62 = some (.iload_n 1) := rfl
theorem at248_63 : jm_at 248 63 = some (.iload 6) := rfl
theorem at248_65 : jm_at 248 65 = some (.invokestatic 276) := rfl
theorem u248_62 {S : Option (Nat × (Nat → Int32))} {H : jm_H} {Q : Option Value → jm_H → Prop} {r0 : Nat} {x1 x2 x3 x4 x5 x6 : Int32} {w7 : Value} : jm_w S 7 248 62 [.ref r0, .int x1, .int x2, .int x3, .int x4, .int x5, .int x6, w7] [] H Q = jm_c S 204 [.int x1, .int x6] H (fun v G => jm_w S 7 248 68 [.ref r0, .int x1, .int x2, .int x3, .int x4, .int x5, .int x6, w7] (v.toList ++ []) G Q) := (js1 at248_62 rfl rfl rfl).trans ((js1 at248_63 rfl rfl rfl).trans (jscall (H := H) (as := [.int x1, .int x6]) (q := []) at248_65 rfl rv248i_276 (jscut rfl rfl rfl (Nat.le_of_ble_eq_true rfl)) rfl (Nat.le_of_ble_eq_true rfl) rfl rfl))
theorem at248_68 : jm_at 248 68 = some (.ifCond .eq 6) := rfl
theorem u248_68 {S : Option (Nat × (Nat → Int32))} {H : jm_H} {Q : Option Value → jm_H → Prop} {r0 : Nat} {x1 x2 x3 x4 x5 x6 p0 : Int32} {w7 : Value} : jm_w S 7 248 68 [.ref r0, .int x1, .int x2, .int x3, .int x4, .int x5, .int x6, w7] [.int p0] H Q = if p0 = 0 then jm_w S 7 248 74 [.ref r0, .int x1, .int x2, .int x3, .int x4, .int x5, .int x6, w7] [] H Q else jm_w S 7 248 71 [.ref r0, .int x1, .int x2, .int x3, .int x4, .int x5, .int x6, w7] [] H Q := jsif (P := p0 = 0) at248_68 rfl rfl
theorem at248_71 : jm_at 248 71 = some (.goto 45) := rfl
theorem u248_71 {S : Option (Nat × (Nat → Int32))} {H : jm_H} {Q : Option Value → jm_H → Prop} {r0 : Nat} {x1 x2 x3 x4 x5 x6 : Int32} {w7 : Value} : jm_w S 7 248 71 [.ref r0, .int x1, .int x2, .int x3, .int x4, .int x5, .int x6, w7] [] H Q = jm_w S 7 248 116 [.ref r0, .int x1, .int x2, .int x3, .int x4, .int x5, .int x6, w7] [] H Q := js2 at248_71 rfl rfl
theorem at248_74 : jm_at 248 74 = some (.aload_n 0) := rfl
theorem at248_75 : jm_at 248 75 = some (.iload_n 1) := rfl
theorem at248_76 : jm_at 248 76 = some (.iload_n 2) := rfl
theorem at248_77 : jm_at 248 77 = some (.iload 5) := rfl
theorem at248_79 : jm_at 248 79 = some (.iload 6) := rfl
theorem at248_81 : jm_at 248 81 = some (.iload_n 3) := rfl
theorem at248_82 : jm_at 248 82 = some (.ifCond .ne 7) := rfl
theorem u248_74 {S : Option (Nat × (Nat → Int32))} {H : jm_H} {Q : Option Value → jm_H → Prop} {r0 : Nat} {x1 x2 x3 x4 x5 x6 : Int32} {w7 : Value} : jm_w S 7 248 74 [.ref r0, .int x1, .int x2, .int x3, .int x4, .int x5, .int x6, w7] [] H Q = if ¬ x3 = 0 then jm_w S 7 248 89 [.ref r0, .int x1, .int x2, .int x3, .int x4, .int x5, .int x6, w7] [.int x6, .int x5, .int x2, .int x1, .ref r0] H Q else jm_w S 7 248 85 [.ref r0, .int x1, .int x2, .int x3, .int x4, .int x5, .int x6, w7] [.int x6, .int x5, .int x2, .int x1, .ref r0] H Q := (js1 at248_74 rfl rfl rfl).trans ((js1 at248_75 rfl rfl rfl).trans ((js1 at248_76 rfl rfl rfl).trans ((js1 at248_77 rfl rfl rfl).trans ((js1 at248_79 rfl rfl rfl).trans ((js1 at248_81 rfl rfl rfl).trans (jsif (P := ¬ x3 = 0) at248_82 rfl rfl))))))
theorem at248_85 : jm_at 248 85 = some (.iconst 0) := rfl
theorem at248_86 : jm_at 248 86 = some (.goto 6) := rfl
theorem u248_85 {S : Option (Nat × (Nat → Int32))} {H : jm_H} {Q : Option Value → jm_H → Prop} {r0 o0 : Nat} {x1 x2 x3 x4 x5 x6 p1 p2 p3 p4 : Int32} {w7 : Value} : jm_w S 7 248 85 [.ref r0, .int x1, .int x2, .int x3, .int x4, .int x5, .int x6, w7] [.int p4, .int p3, .int p2, .int p1, .ref o0] H Q = jm_w S 7 248 92 [.ref r0, .int x1, .int x2, .int x3, .int x4, .int x5, .int x6, w7] [.int (0 : Int32), .int p4, .int p3, .int p2, .int p1, .ref o0] H Q := (jsci at248_85 rfl rfl).trans (js2 at248_86 rfl rfl)
theorem at248_89 : jm_at 248 89 = some (.iload_n 3) := rfl
theorem at248_90 : jm_at 248 90 = some (.iconst 1) := rfl
theorem at248_91 : jm_at 248 91 = some (.iadd) := rfl
theorem u248_89 {S : Option (Nat × (Nat → Int32))} {H : jm_H} {Q : Option Value → jm_H → Prop} {r0 o0 : Nat} {x1 x2 x3 x4 x5 x6 p1 p2 p3 p4 : Int32} {w7 : Value} : jm_w S 7 248 89 [.ref r0, .int x1, .int x2, .int x3, .int x4, .int x5, .int x6, w7] [.int p4, .int p3, .int p2, .int p1, .ref o0] H Q = jm_w S 7 248 92 [.ref r0, .int x1, .int x2, .int x3, .int x4, .int x5, .int x6, w7] [.int (x3 + (1 : Int32)), .int p4, .int p3, .int p2, .int p1, .ref o0] H Q := (js1 at248_89 rfl rfl rfl).trans ((jsci at248_90 rfl rfl).trans (js0 at248_91 rfl rfl rfl))
theorem at248_92 : jm_at 248 92 = some (.invokevirtual 269) := rfl
theorem rv248i_269 : jm_rv 248 (.invokevirtual 269) = (2, 209, 0, 0) := rfl
theorem u248_92 {S : Option (Nat × (Nat → Int32))} {H : jm_H} {Q : Option Value → jm_H → Prop} {r0 o0 : Nat} {x1 x2 x3 x4 x5 x6 p1 p2 p3 p4 p5 : Int32} {w7 : Value} (h0 : jm_tg H o0 = 13) : jm_w S 7 248 92 [.ref r0, .int x1, .int x2, .int x3, .int x4, .int x5, .int x6, w7] [.int p5, .int p4, .int p3, .int p2, .int p1, .ref o0] H Q = jm_c S 209 [.ref o0, .int p1, .int p2, .int p3, .int p4, .int p5] H (fun v G => jm_w S 7 248 95 [.ref r0, .int x1, .int x2, .int x3, .int x4, .int x5, .int x6, w7] (v.toList ++ []) G Q) := jscall (H := H) (as := [.ref o0, .int p1, .int p2, .int p3, .int p4, .int p5]) (q := []) at248_92 rfl rv248i_269 (jscutV rfl rfl rfl (Nat.le_of_ble_eq_true rfl) rfl h0) rfl (Nat.le_of_ble_eq_true rfl) rfl rfl
theorem at248_95 : jm_at 248 95 = some (.istore 7) := rfl
theorem at248_97 : jm_at 248 97 = some (.iload_n 1) := rfl
theorem at248_98 : jm_at 248 98 = some (.iload 7) := rfl
theorem at248_100 : jm_at 248 100 = some (.invokestatic 276) := rfl
theorem u248_95 {S : Option (Nat × (Nat → Int32))} {H : jm_H} {Q : Option Value → jm_H → Prop} {r0 : Nat} {x1 x2 x3 x4 x5 x6 p0 : Int32} {w7 : Value} : jm_w S 7 248 95 [.ref r0, .int x1, .int x2, .int x3, .int x4, .int x5, .int x6, w7] [.int p0] H Q = jm_c S 204 [.int x1, .int p0] H (fun v G => jm_w S 7 248 103 [.ref r0, .int x1, .int x2, .int x3, .int x4, .int x5, .int x6, .int p0] (v.toList ++ []) G Q) := (js1 at248_95 rfl rfl rfl).trans ((js1 at248_97 rfl rfl rfl).trans ((js1 at248_98 rfl rfl rfl).trans (jscall (H := H) (as := [.int x1, .int p0]) (q := []) at248_100 rfl rv248i_276 (jscut rfl rfl rfl (Nat.le_of_ble_eq_true rfl)) rfl (Nat.le_of_ble_eq_true rfl) rfl rfl)))
theorem at248_103 : jm_at 248 103 = some (.ifCond .ne 13) := rfl
theorem u248_103 {S : Option (Nat × (Nat → Int32))} {H : jm_H} {Q : Option Value → jm_H → Prop} {r0 : Nat} {x1 x2 x3 x4 x5 x6 x7 p0 : Int32} : jm_w S 7 248 103 [.ref r0, .int x1, .int x2, .int x3, .int x4, .int x5, .int x6, .int x7] [.int p0] H Q = if ¬ p0 = 0 then jm_w S 7 248 116 [.ref r0, .int x1, .int x2, .int x3, .int x4, .int x5, .int x6, .int x7] [] H Q else jm_w S 7 248 106 [.ref r0, .int x1, .int x2, .int x3, .int x4, .int x5, .int x6, .int x7] [] H Q := jsif (P := ¬ p0 = 0) at248_103 rfl rfl
theorem at248_106 : jm_at 248 106 = some (.aload_n 0) := rfl
theorem at248_107 : jm_at 248 107 = some (.getfield 380) := rfl
theorem rv248g_380 : jm_rv 248 (.getfield 380) = (0, 12, 58, 0) := rfl
theorem at248_110 : jm_at 248 110 = some (.ifCond .ne 6) := rfl
theorem u248_106 {S : Option (Nat × (Nat → Int32))} {H : jm_H} {Q : Option Value → jm_H → Prop} {r0 : Nat} {x1 x2 x3 x4 x5 x6 x7 : Int32} (h0 : jm_tg H r0 = 13) : jm_w S 7 248 106 [.ref r0, .int x1, .int x2, .int x3, .int x4, .int x5, .int x6, .int x7] [] H Q = if ¬ (jm_I H r0 58) = 0 then jm_w S 7 248 116 [.ref r0, .int x1, .int x2, .int x3, .int x4, .int x5, .int x6, .int x7] [] H Q else jm_w S 7 248 113 [.ref r0, .int x1, .int x2, .int x3, .int x4, .int x5, .int x6, .int x7] [] H Q := (js1 at248_106 rfl rfl rfl).trans ((jsgI (H := H) at248_107 rv248g_380 (Or.inl rfl) h0 rfl).trans (jsif (P := ¬ (jm_I H r0 58) = 0) at248_110 rfl rfl))
theorem at248_113 : jm_at 248 113 = some (.iinc 4 1) := rfl
theorem u248_113 {S : Option (Nat × (Nat → Int32))} {H : jm_H} {Q : Option Value → jm_H → Prop} {r0 : Nat} {x1 x2 x3 x4 x5 x6 x7 : Int32} : jm_w S 7 248 113 [.ref r0, .int x1, .int x2, .int x3, .int x4, .int x5, .int x6, .int x7] [] H Q = jm_w S 7 248 116 [.ref r0, .int x1, .int x2, .int x3, .int (x4 + 1), .int x5, .int x6, .int x7] [] H Q := jsinc at248_113 rfl rfl rfl
theorem at248_116 : jm_at 248 116 = some (.iinc 6 1) := rfl
theorem at248_119 : jm_at 248 119 = some (.goto (-74)) := rfl
theorem u248_116 {S : Option (Nat × (Nat → Int32))} {H : jm_H} {Q : Option Value → jm_H → Prop} {r0 : Nat} {x1 x2 x3 x4 x5 x6 : Int32} {w7 : Value} : jm_w S 7 248 116 [.ref r0, .int x1, .int x2, .int x3, .int x4, .int x5, .int x6, w7] [] H Q = jm_w S 7 248 45 [.ref r0, .int x1, .int x2, .int x3, .int x4, .int x5, .int (x6 + 1), w7] [] H Q := (jsinc at248_116 rfl rfl rfl).trans (js2 at248_119 rfl rfl)
theorem at248_122 : jm_at 248 122 = some (.iinc 5 1) := rfl
theorem at248_125 : jm_at 248 125 = some (.goto (-91)) := rfl
theorem u248_122 {S : Option (Nat × (Nat → Int32))} {H : jm_H} {Q : Option Value → jm_H → Prop} {r0 : Nat} {x1 x2 x3 x4 x5 x6 : Int32} {w7 : Value} : jm_w S 7 248 122 [.ref r0, .int x1, .int x2, .int x3, .int x4, .int x5, .int x6, w7] [] H Q = jm_w S 7 248 34 [.ref r0, .int x1, .int x2, .int x3, .int x4, .int (x5 + 1), .int x6, w7] [] H Q := (jsinc at248_122 rfl rfl rfl).trans (js2 at248_125 rfl rfl)
theorem at248_128 : jm_at 248 128 = some (.iload 4) := rfl
theorem at248_130 : jm_at 248 130 = some (.ireturn) := rfl
theorem u248_128 {S : Option (Nat × (Nat → Int32))} {H : jm_H} {Q : Option Value → jm_H → Prop} {r0 : Nat} {x1 x2 x3 x4 x5 : Int32} {w6 w7 : Value} : jm_w S 7 248 128 [.ref r0, .int x1, .int x2, .int x3, .int x4, .int x5, w6, w7] [] H Q = Q (some (.int x4)) H := (js1 at248_128 rfl rfl rfl).trans (jsret_i at248_130 rfl)
theorem en248 {S : Option (Nat × (Nat → Int32))} {H : jm_H} {Q : Option Value → jm_H → Prop} {r0 : Nat} {x1 x2 x3 : Int32} : jm_c S 248 [.ref r0, .int x1, .int x2, .int x3] H Q = jm_w S 7 248 0 [.ref r0, .int x1, .int x2, .int x3, .null, .null, .null, .null] [] H Q := rfl
theorem at249_0 : jm_at 249 0 = some (.iload_n 1) := rfl
theorem at249_1 : jm_at 249 1 = some (.iconst 0) := rfl
theorem at249_2 : jm_at 249 2 = some (.aload_n 0) := rfl
theorem at249_3 : jm_at 249 3 = some (.getfield 200) := rfl
theorem rv249g_200 : jm_rv 249 (.getfield 200) = (0, 12, 25, 0) := rfl
theorem at249_6 : jm_at 249 6 = some (.iconst 1) := rfl
theorem at249_7 : jm_at 249 7 = some (.isub) := rfl
theorem at249_8 : jm_at 249 8 = some (.invokestatic 218) := rfl
theorem rv249i_218 : jm_rv 249 (.invokestatic 218) = (1, 176, 0, 0) := rfl
theorem u249_0 {S : Option (Nat × (Nat → Int32))} {H : jm_H} {Q : Option Value → jm_H → Prop} {r0 : Nat} {x1 x2 : Int32} (h0 : jm_tg H r0 = 13) : jm_w S 5 249 0 [.ref r0, .int x1, .int x2, .null, .null] [] H Q = jm_c S 176 [.int x1, .int (0 : Int32), .int ((jm_I H r0 25) - (1 : Int32))] H (fun v G => jm_w S 5 249 11 [.ref r0, .int x1, .int x2, .null, .null] (v.toList ++ []) G Q) := (js1 at249_0 rfl rfl rfl).trans ((jsci at249_1 rfl rfl).trans ((js1 at249_2 rfl rfl rfl).trans ((jsgI (H := H) at249_3 rv249g_200 (Or.inl rfl) h0 rfl).trans ((jsci at249_6 rfl rfl).trans ((js0 at249_7 rfl rfl rfl).trans (jscall (H := H) (as := [.int x1, .int (0 : Int32), .int ((jm_I H r0 25) - (1 : Int32))]) (q := []) at249_8 rfl rv249i_218 (jscut rfl rfl rfl (Nat.le_of_ble_eq_true rfl)) rfl (Nat.le_of_ble_eq_true rfl) rfl rfl))))))
theorem at249_11 : jm_at 249 11 = some (.ifCond .eq 12) := rfl
theorem u249_11 {S : Option (Nat × (Nat → Int32))} {H : jm_H} {Q : Option Value → jm_H → Prop} {r0 : Nat} {x1 x2 p0 : Int32} : jm_w S 5 249 11 [.ref r0, .int x1, .int x2, .null, .null] [.int p0] H Q = if p0 = 0 then jm_w S 5 249 23 [.ref r0, .int x1, .int x2, .null, .null] [] H Q else jm_w S 5 249 14 [.ref r0, .int x1, .int x2, .null, .null] [] H Q := jsif (P := p0 = 0) at249_11 rfl rfl
theorem at249_14 : jm_at 249 14 = some (.iload_n 2) := rfl
theorem at249_15 : jm_at 249 15 = some (.iconst 0) := rfl
theorem at249_16 : jm_at 249 16 = some (.iconst 3) := rfl
theorem at249_17 : jm_at 249 17 = some (.invokestatic 218) := rfl
theorem u249_14 {S : Option (Nat × (Nat → Int32))} {H : jm_H} {Q : Option Value → jm_H → Prop} {r0 : Nat} {x1 x2 : Int32} : jm_w S 5 249 14 [.ref r0, .int x1, .int x2, .null, .null] [] H Q = jm_c S 176 [.int x2, .int (0 : Int32), .int (3 : Int32)] H (fun v G => jm_w S 5 249 20 [.ref r0, .int x1, .int x2, .null, .null] (v.toList ++ []) G Q) := (js1 at249_14 rfl rfl rfl).trans ((jsci at249_15 rfl rfl).trans ((jsci at249_16 rfl rfl).trans (jscall (H := H) (as := [.int x2, .int (0 : Int32), .int (3 : Int32)]) (q := []) at249_17 rfl rv249i_218 (jscut rfl rfl rfl (Nat.le_of_ble_eq_true rfl)) rfl (Nat.le_of_ble_eq_true rfl) rfl rfl)))
theorem at249_20 : jm_at 249 20 = some (.ifCond .ne 7) := rfl
theorem u249_20 {S : Option (Nat × (Nat → Int32))} {H : jm_H} {Q : Option Value → jm_H → Prop} {r0 : Nat} {x1 x2 p0 : Int32} : jm_w S 5 249 20 [.ref r0, .int x1, .int x2, .null, .null] [.int p0] H Q = if ¬ p0 = 0 then jm_w S 5 249 27 [.ref r0, .int x1, .int x2, .null, .null] [] H Q else jm_w S 5 249 23 [.ref r0, .int x1, .int x2, .null, .null] [] H Q := jsif (P := ¬ p0 = 0) at249_20 rfl rfl
theorem at249_23 : jm_at 249 23 = some (.ldc_w 410) := rfl
theorem rv249l_410 : jm_rv 249 (.ldc_w 410) = (8, 0, 0, (-100000)) := rfl
theorem at249_26 : jm_at 249 26 = some (.ireturn) := rfl
theorem u249_23 {S : Option (Nat × (Nat → Int32))} {H : jm_H} {Q : Option Value → jm_H → Prop} {r0 : Nat} {x1 x2 : Int32} : jm_w S 5 249 23 [.ref r0, .int x1, .int x2, .null, .null] [] H Q = Q (some (.int (-100000 : Int32))) H := (jskw at249_23 rv249l_410 rfl rfl).trans (jsret_i at249_26 rfl)
theorem at249_27 : jm_at 249 27 = some (.aload_n 0) := rfl
theorem at249_28 : jm_at 249 28 = some (.getfield 40) := rfl
theorem rv249g_40 : jm_rv 249 (.getfield 40) = (0, 12, 17, 0) := rfl
theorem at249_31 : jm_at 249 31 = some (.iconst 0) := rfl
theorem at249_32 : jm_at 249 32 = some (.iaload) := rfl
theorem at249_33 : jm_at 249 33 = some (.istore_n 3) := rfl
theorem at249_34 : jm_at 249 34 = some (.aload_n 0) := rfl
theorem at249_35 : jm_at 249 35 = some (.getfield 55) := rfl
theorem rv249g_55 : jm_rv 249 (.getfield 55) = (0, 12, 24, 0) := rfl
theorem at249_38 : jm_at 249 38 = some (.iload_n 1) := rfl
theorem at249_39 : jm_at 249 39 = some (.iaload) := rfl
theorem at249_40 : jm_at 249 40 = some (.istore 4) := rfl
theorem at249_42 : jm_at 249 42 = some (.iload_n 2) := rfl
theorem at249_43 : jm_at 249 43 = some (.ifCond .ne 6) := rfl
theorem u249_27 {S : Option (Nat × (Nat → Int32))} {H : jm_H} {Q : Option Value → jm_H → Prop} {r0 : Nat} {x1 x2 : Int32} (h0 : jm_tg H r0 = 13) (h1 : ¬ jm_R H r0 17 = 0) (h2 : ¬ ((0 : Int32) < 0 ∨ jm_ln H (jm_R H r0 17) ≤ Int32.toNatClampNeg (0 : Int32))) (h3 : ¬ (jm_R H r0 17) = 1) (h4 : jm_tg H (jm_R H r0 17) = 100) (h5 : ¬ jm_R H r0 24 = 0) (h6 : ¬ (x1 < 0 ∨ jm_ln H (jm_R H r0 24) ≤ Int32.toNatClampNeg x1)) (h7 : ¬ (jm_R H r0 24) = 1) (h8 : jm_tg H (jm_R H r0 24) = 100) : jm_w S 5 249 27 [.ref r0, .int x1, .int x2, .null, .null] [] H Q = if ¬ x2 = 0 then jm_w S 5 249 49 [.ref r0, .int x1, .int x2, .int (jm_I H (jm_R H r0 17) (Int32.toNatClampNeg (0 : Int32))), .int (jm_I H (jm_R H r0 24) (Int32.toNatClampNeg x1))] [] H Q else jm_w S 5 249 46 [.ref r0, .int x1, .int x2, .int (jm_I H (jm_R H r0 17) (Int32.toNatClampNeg (0 : Int32))), .int (jm_I H (jm_R H r0 24) (Int32.toNatClampNeg x1))] [] H Q := (js1 at249_27 rfl rfl rfl).trans ((jsgR (H := H) at249_28 rv249g_40 rfl h0 h1 rfl).trans ((jsci at249_31 rfl rfl).trans ((jsial (H := H) at249_32 h3 h4 h2 rfl).trans ((js1 at249_33 rfl rfl rfl).trans ((js1 at249_34 rfl rfl rfl).trans ((jsgR (H := H) at249_35 rv249g_55 rfl h0 h5 rfl).trans ((js1 at249_38 rfl rfl rfl).trans ((jsial (H := H) at249_39 h7 h8 h6 rfl).trans ((js1 at249_40 rfl rfl rfl).trans ((js1 at249_42 rfl rfl rfl).trans (jsif (P := ¬ x2 = 0) at249_43 rfl rfl)))))))))))
theorem at249_46 : jm_at 249 46 = some (.iload 4) := rfl
theorem at249_48 : jm_at 249 48 = some (.ireturn) := rfl
theorem u249_46 {S : Option (Nat × (Nat → Int32))} {H : jm_H} {Q : Option Value → jm_H → Prop} {r0 : Nat} {x1 x2 x3 x4 : Int32} : jm_w S 5 249 46 [.ref r0, .int x1, .int x2, .int x3, .int x4] [] H Q = Q (some (.int x4)) H := (js1 at249_46 rfl rfl rfl).trans (jsret_i at249_48 rfl)
theorem at249_49 : jm_at 249 49 = some (.iload_n 3) := rfl
theorem at249_50 : jm_at 249 50 = some (.iload 4) := rfl
theorem at249_52 : jm_at 249 52 = some (.invokestatic 276) := rfl
theorem rv249i_276 : jm_rv 249 (.invokestatic 276) = (1, 204, 0, 0) := rfl
theorem u249_49 {S : Option (Nat × (Nat → Int32))} {H : jm_H} {Q : Option Value → jm_H → Prop} {r0 : Nat} {x1 x2 x3 x4 : Int32} : jm_w S 5 249 49 [.ref r0, .int x1, .int x2, .int x3, .int x4] [] H Q = jm_c S 204 [.int x3, .int x4] H (fun v G => jm_w S 5 249 55 [.ref r0, .int x1, .int x2, .int x3, .int x4] (v.toList ++ []) G Q) := (js1 at249_49 rfl rfl rfl).trans ((js1 at249_50 rfl rfl rfl).trans (jscall (H := H) (as := [.int x3, .int x4]) (q := []) at249_52 rfl rv249i_276 (jscut rfl rfl rfl (Nat.le_of_ble_eq_true rfl)) rfl (Nat.le_of_ble_eq_true rfl) rfl rfl))
theorem at249_55 : jm_at 249 55 = some (.ifCond .eq 6) := rfl
theorem u249_55 {S : Option (Nat × (Nat → Int32))} {H : jm_H} {Q : Option Value → jm_H → Prop} {r0 : Nat} {x1 x2 x3 x4 p0 : Int32} : jm_w S 5 249 55 [.ref r0, .int x1, .int x2, .int x3, .int x4] [.int p0] H Q = if p0 = 0 then jm_w S 5 249 61 [.ref r0, .int x1, .int x2, .int x3, .int x4] [] H Q else jm_w S 5 249 58 [.ref r0, .int x1, .int x2, .int x3, .int x4] [] H Q := jsif (P := p0 = 0) at249_55 rfl rfl
theorem at249_58 : jm_at 249 58 = some (.bipush (-2)) := rfl
theorem at249_60 : jm_at 249 60 = some (.ireturn) := rfl
theorem u249_58 {S : Option (Nat × (Nat → Int32))} {H : jm_H} {Q : Option Value → jm_H → Prop} {r0 : Nat} {x1 x2 x3 x4 : Int32} : jm_w S 5 249 58 [.ref r0, .int x1, .int x2, .int x3, .int x4] [] H Q = Q (some (.int (-2 : Int32))) H := (jscb at249_58 rfl rfl).trans (jsret_i at249_60 rfl)
theorem at249_61 : jm_at 249 61 = some (.iload_n 2) := rfl
theorem at249_62 : jm_at 249 62 = some (.iconst 1) := rfl
theorem at249_63 : jm_at 249 63 = some (.if_icmp .ne 17) := rfl
theorem u249_61 {S : Option (Nat × (Nat → Int32))} {H : jm_H} {Q : Option Value → jm_H → Prop} {r0 : Nat} {x1 x2 x3 x4 : Int32} : jm_w S 5 249 61 [.ref r0, .int x1, .int x2, .int x3, .int x4] [] H Q = if ¬ x2 = (1 : Int32) then jm_w S 5 249 80 [.ref r0, .int x1, .int x2, .int x3, .int x4] [] H Q else jm_w S 5 249 66 [.ref r0, .int x1, .int x2, .int x3, .int x4] [] H Q := (js1 at249_61 rfl rfl rfl).trans ((jsci at249_62 rfl rfl).trans (jsif (P := ¬ x2 = (1 : Int32)) at249_63 rfl rfl))
theorem at249_66 : jm_at 249 66 = some (.aload_n 0) := rfl
theorem at249_67 : jm_at 249 67 = some (.iload_n 3) := rfl
theorem at249_68 : jm_at 249 68 = some (.aload_n 0) := rfl
theorem at249_69 : jm_at 249 69 = some (.getfield 40) := rfl
theorem at249_72 : jm_at 249 72 = some (.iconst 1) := rfl
theorem at249_73 : jm_at 249 73 = some (.iaload) := rfl
theorem at249_74 : jm_at 249 74 = some (.iload 4) := rfl
theorem at249_76 : jm_at 249 76 = some (.invokevirtual 411) := rfl
theorem rv249i_411 : jm_rv 249 (.invokevirtual 411) = (2, 234, 0, 0) := rfl
theorem u249_66 {S : Option (Nat × (Nat → Int32))} {H : jm_H} {Q : Option Value → jm_H → Prop} {r0 : Nat} {x1 x2 x3 x4 : Int32} (h0 : jm_tg H r0 = 13) (h1 : ¬ jm_R H r0 17 = 0) (h2 : ¬ ((1 : Int32) < 0 ∨ jm_ln H (jm_R H r0 17) ≤ Int32.toNatClampNeg (1 : Int32))) (h3 : ¬ (jm_R H r0 17) = 1) (h4 : jm_tg H (jm_R H r0 17) = 100) : jm_w S 5 249 66 [.ref r0, .int x1, .int x2, .int x3, .int x4] [] H Q = jm_c S 234 [.ref r0, .int x3, .int (jm_I H (jm_R H r0 17) (Int32.toNatClampNeg (1 : Int32))), .int x4] H (fun v G => jm_w S 5 249 79 [.ref r0, .int x1, .int x2, .int x3, .int x4] (v.toList ++ []) G Q) := (js1 at249_66 rfl rfl rfl).trans ((js1 at249_67 rfl rfl rfl).trans ((js1 at249_68 rfl rfl rfl).trans ((jsgR (H := H) at249_69 rv249g_40 rfl h0 h1 rfl).trans ((jsci at249_72 rfl rfl).trans ((jsial (H := H) at249_73 h3 h4 h2 rfl).trans ((js1 at249_74 rfl rfl rfl).trans (jscall (H := H) (as := [.ref r0, .int x3, .int (jm_I H (jm_R H r0 17) (Int32.toNatClampNeg (1 : Int32))), .int x4]) (q := []) at249_76 rfl rv249i_411 (jscutV rfl rfl rfl (Nat.le_of_ble_eq_true rfl) rfl h0) rfl (Nat.le_of_ble_eq_true rfl) rfl rfl)))))))
theorem at249_79 : jm_at 249 79 = some (.ireturn) := rfl
theorem u249_79 {S : Option (Nat × (Nat → Int32))} {H : jm_H} {Q : Option Value → jm_H → Prop} {r0 : Nat} {x1 x2 x3 x4 p0 : Int32} : jm_w S 5 249 79 [.ref r0, .int x1, .int x2, .int x3, .int x4] [.int p0] H Q = Q (some (.int p0)) H := jsret_i at249_79 rfl
theorem at249_80 : jm_at 249 80 = some (.iload 4) := rfl
theorem at249_82 : jm_at 249 82 = some (.ifCond .ne 6) := rfl
theorem u249_80 {S : Option (Nat × (Nat → Int32))} {H : jm_H} {Q : Option Value → jm_H → Prop} {r0 : Nat} {x1 x2 x3 x4 : Int32} : jm_w S 5 249 80 [.ref r0, .int x1, .int x2, .int x3, .int x4] [] H Q = if ¬ x4 = 0 then jm_w S 5 249 88 [.ref r0, .int x1, .int x2, .int x3, .int x4] [] H Q else jm_w S 5 249 85 [.ref r0, .int x1, .int x2, .int x3, .int x4] [] H Q := (js1 at249_80 rfl rfl rfl).trans (jsif (P := ¬ x4 = 0) at249_82 rfl rfl)
theorem at249_85 : jm_at 249 85 = some (.bipush (-2)) := rfl
theorem at249_87 : jm_at 249 87 = some (.ireturn) := rfl
theorem u249_85 {S : Option (Nat × (Nat → Int32))} {H : jm_H} {Q : Option Value → jm_H → Prop} {r0 : Nat} {x1 x2 x3 x4 : Int32} : jm_w S 5 249 85 [.ref r0, .int x1, .int x2, .int x3, .int x4] [] H Q = Q (some (.int (-2 : Int32))) H := (jscb at249_85 rfl rfl).trans (jsret_i at249_87 rfl)
theorem at249_88 : jm_at 249 88 = some (.aload_n 0) := rfl
theorem at249_89 : jm_at 249 89 = some (.iload_n 3) := rfl
theorem at249_90 : jm_at 249 90 = some (.aload_n 0) := rfl
theorem at249_91 : jm_at 249 91 = some (.getfield 40) := rfl
theorem at249_94 : jm_at 249 94 = some (.iconst 1) := rfl
theorem at249_95 : jm_at 249 95 = some (.iaload) := rfl
theorem at249_96 : jm_at 249 96 = some (.iload 4) := rfl
theorem at249_98 : jm_at 249 98 = some (.invokevirtual 345) := rfl
theorem rv249i_345 : jm_rv 249 (.invokevirtual 345) = (2, 193, 0, 0) := rfl
theorem u249_88 {S : Option (Nat × (Nat → Int32))} {H : jm_H} {Q : Option Value → jm_H → Prop} {r0 : Nat} {x1 x2 x3 x4 : Int32} (h0 : jm_tg H r0 = 13) (h1 : ¬ jm_R H r0 17 = 0) (h2 : ¬ ((1 : Int32) < 0 ∨ jm_ln H (jm_R H r0 17) ≤ Int32.toNatClampNeg (1 : Int32))) (h3 : ¬ (jm_R H r0 17) = 1) (h4 : jm_tg H (jm_R H r0 17) = 100) : jm_w S 5 249 88 [.ref r0, .int x1, .int x2, .int x3, .int x4] [] H Q = jm_c S 193 [.ref r0, .int x3, .int (jm_I H (jm_R H r0 17) (Int32.toNatClampNeg (1 : Int32))), .int x4] H (fun v G => jm_w S 5 249 101 [.ref r0, .int x1, .int x2, .int x3, .int x4] (v.toList ++ []) G Q) := (js1 at249_88 rfl rfl rfl).trans ((js1 at249_89 rfl rfl rfl).trans ((js1 at249_90 rfl rfl rfl).trans ((jsgR (H := H) at249_91 rv249g_40 rfl h0 h1 rfl).trans ((jsci at249_94 rfl rfl).trans ((jsial (H := H) at249_95 h3 h4 h2 rfl).trans ((js1 at249_96 rfl rfl rfl).trans (jscall (H := H) (as := [.ref r0, .int x3, .int (jm_I H (jm_R H r0 17) (Int32.toNatClampNeg (1 : Int32))), .int x4]) (q := []) at249_98 rfl rv249i_345 (jscutV rfl rfl rfl (Nat.le_of_ble_eq_true rfl) rfl h0) rfl (Nat.le_of_ble_eq_true rfl) rfl rfl)))))))
theorem at249_101 : jm_at 249 101 = some (.aload_n 0) := rfl
theorem at249_102 : jm_at 249 102 = some (.invokevirtual 414) := rfl
theorem rv249i_414 : jm_rv 249 (.invokevirtual 414) = (2, 235, 0, 0) := rfl
theorem u249_101 {S : Option (Nat × (Nat → Int32))} {H : jm_H} {Q : Option Value → jm_H → Prop} {r0 : Nat} {x1 x2 x3 x4 : Int32} (h0 : jm_tg H r0 = 13) : jm_w S 5 249 101 [.ref r0, .int x1, .int x2, .int x3, .int x4] [] H Q = jm_c S 235 [.ref r0] H (fun v G => jm_w S 5 249 105 [.ref r0, .int x1, .int x2, .int x3, .int x4] (v.toList ++ []) G Q) := (js1 at249_101 rfl rfl rfl).trans (jscall (H := H) (as := [.ref r0]) (q := []) at249_102 rfl rv249i_414 (jscutV rfl rfl rfl (Nat.le_of_ble_eq_true rfl) rfl h0) rfl (Nat.le_of_ble_eq_true rfl) rfl rfl)
theorem at249_105 : jm_at 249 105 = some (.iload_n 2) := rfl
theorem at249_106 : jm_at 249 106 = some (.iconst 2) := rfl
theorem at249_107 : jm_at 249 107 = some (.if_icmp .ne 10) := rfl
theorem u249_105 {S : Option (Nat × (Nat → Int32))} {H : jm_H} {Q : Option Value → jm_H → Prop} {r0 : Nat} {x1 x2 x3 x4 : Int32} : jm_w S 5 249 105 [.ref r0, .int x1, .int x2, .int x3, .int x4] [] H Q = if ¬ x2 = (2 : Int32) then jm_w S 5 249 117 [.ref r0, .int x1, .int x2, .int x3, .int x4] [] H Q else jm_w S 5 249 110 [.ref r0, .int x1, .int x2, .int x3, .int x4] [] H Q := (js1 at249_105 rfl rfl rfl).trans ((jsci at249_106 rfl rfl).trans (jsif (P := ¬ x2 = (2 : Int32)) at249_107 rfl rfl))
theorem at249_110 : jm_at 249 110 = some (.aload_n 0) := rfl
theorem at249_111 : jm_at 249 111 = some (.getfield 328) := rfl
theorem rv249g_328 : jm_rv 249 (.getfield 328) = (0, 12, 48, 0) := rfl
theorem at249_114 : jm_at 249 114 = some (.goto 7) := rfl
theorem u249_110 {S : Option (Nat × (Nat → Int32))} {H : jm_H} {Q : Option Value → jm_H → Prop} {r0 : Nat} {x1 x2 x3 x4 : Int32} (h0 : jm_tg H r0 = 13) : jm_w S 5 249 110 [.ref r0, .int x1, .int x2, .int x3, .int x4] [] H Q = jm_w S 5 249 121 [.ref r0, .int x1, .int x2, .int x3, .int x4] [.int (jm_I H r0 48)] H Q := (js1 at249_110 rfl rfl rfl).trans ((jsgI (H := H) at249_111 rv249g_328 (Or.inl rfl) h0 rfl).trans (js2 at249_114 rfl rfl))
theorem at249_117 : jm_at 249 117 = some (.aload_n 0) := rfl
theorem at249_118 : jm_at 249 118 = some (.getfield 331) := rfl
theorem rv249g_331 : jm_rv 249 (.getfield 331) = (0, 12, 49, 0) := rfl
theorem u249_117 {S : Option (Nat × (Nat → Int32))} {H : jm_H} {Q : Option Value → jm_H → Prop} {r0 : Nat} {x1 x2 x3 x4 : Int32} (h0 : jm_tg H r0 = 13) : jm_w S 5 249 117 [.ref r0, .int x1, .int x2, .int x3, .int x4] [] H Q = jm_w S 5 249 121 [.ref r0, .int x1, .int x2, .int x3, .int x4] [.int (jm_I H r0 49)] H Q := (js1 at249_117 rfl rfl rfl).trans (jsgI (H := H) at249_118 rv249g_331 (Or.inl rfl) h0 rfl)
theorem at249_121 : jm_at 249 121 = some (.ireturn) := rfl
theorem u249_121 {S : Option (Nat × (Nat → Int32))} {H : jm_H} {Q : Option Value → jm_H → Prop} {r0 : Nat} {x1 x2 x3 x4 p0 : Int32} : jm_w S 5 249 121 [.ref r0, .int x1, .int x2, .int x3, .int x4] [.int p0] H Q = Q (some (.int p0)) H := jsret_i at249_121 rfl
theorem en249 {S : Option (Nat × (Nat → Int32))} {H : jm_H} {Q : Option Value → jm_H → Prop} {r0 : Nat} {x1 x2 : Int32} : jm_c S 249 [.ref r0, .int x1, .int x2] H Q = jm_w S 5 249 0 [.ref r0, .int x1, .int x2, .null, .null] [] H Q := rfl
theorem at250_0 : jm_at 250 0 = some (.iload_n 1) := rfl
theorem u250_0 {S : Option (Nat × (Nat → Int32))} {H : jm_H} {Q : Option Value → jm_H → Prop} {r0 : Nat} {x1 : Int32} : jm_w S 4 250 0 [.ref r0, .int x1] [] H Q = jm_w S 4 250 1 [.ref r0, .int x1] [.int x1] H Q := js1 at250_0 rfl rfl rfl
theorem at250_1 : jm_at 250 1 = some (.tableswitch 205 0 10 #[59, 66, 73, 78, 100, 105, 110, 115, 120, 165, 186]) := rfl
theorem u250_1_0 {S : Option (Nat × (Nat → Int32))} {H : jm_H} {Q : Option Value → jm_H → Prop} {r0 : Nat} {x1 : Int32} : jm_w S 4 250 1 [.ref r0, .int x1] [.int 0] H Q = jm_w S 4 250 60 [.ref r0, .int x1] [] H Q := js2 at250_1 rfl rfl
theorem u250_1_1 {S : Option (Nat × (Nat → Int32))} {H : jm_H} {Q : Option Value → jm_H → Prop} {r0 : Nat} {x1 : Int32} : jm_w S 4 250 1 [.ref r0, .int x1] [.int 1] H Q = jm_w S 4 250 67 [.ref r0, .int x1] [] H Q := js2 at250_1 rfl rfl
theorem u250_1_2 {S : Option (Nat × (Nat → Int32))} {H : jm_H} {Q : Option Value → jm_H → Prop} {r0 : Nat} {x1 : Int32} : jm_w S 4 250 1 [.ref r0, .int x1] [.int 2] H Q = jm_w S 4 250 74 [.ref r0, .int x1] [] H Q := js2 at250_1 rfl rfl
theorem u250_1_3 {S : Option (Nat × (Nat → Int32))} {H : jm_H} {Q : Option Value → jm_H → Prop} {r0 : Nat} {x1 : Int32} : jm_w S 4 250 1 [.ref r0, .int x1] [.int 3] H Q = jm_w S 4 250 79 [.ref r0, .int x1] [] H Q := js2 at250_1 rfl rfl
theorem u250_1_4 {S : Option (Nat × (Nat → Int32))} {H : jm_H} {Q : Option Value → jm_H → Prop} {r0 : Nat} {x1 : Int32} : jm_w S 4 250 1 [.ref r0, .int x1] [.int 4] H Q = jm_w S 4 250 101 [.ref r0, .int x1] [] H Q := js2 at250_1 rfl rfl
theorem u250_1_5 {S : Option (Nat × (Nat → Int32))} {H : jm_H} {Q : Option Value → jm_H → Prop} {r0 : Nat} {x1 : Int32} : jm_w S 4 250 1 [.ref r0, .int x1] [.int 5] H Q = jm_w S 4 250 106 [.ref r0, .int x1] [] H Q := js2 at250_1 rfl rfl
theorem u250_1_6 {S : Option (Nat × (Nat → Int32))} {H : jm_H} {Q : Option Value → jm_H → Prop} {r0 : Nat} {x1 : Int32} : jm_w S 4 250 1 [.ref r0, .int x1] [.int 6] H Q = jm_w S 4 250 111 [.ref r0, .int x1] [] H Q := js2 at250_1 rfl rfl
theorem u250_1_7 {S : Option (Nat × (Nat → Int32))} {H : jm_H} {Q : Option Value → jm_H → Prop} {r0 : Nat} {x1 : Int32} : jm_w S 4 250 1 [.ref r0, .int x1] [.int 7] H Q = jm_w S 4 250 116 [.ref r0, .int x1] [] H Q := js2 at250_1 rfl rfl
theorem u250_1_8 {S : Option (Nat × (Nat → Int32))} {H : jm_H} {Q : Option Value → jm_H → Prop} {r0 : Nat} {x1 : Int32} : jm_w S 4 250 1 [.ref r0, .int x1] [.int 8] H Q = jm_w S 4 250 121 [.ref r0, .int x1] [] H Q := js2 at250_1 rfl rfl
theorem u250_1_9 {S : Option (Nat × (Nat → Int32))} {H : jm_H} {Q : Option Value → jm_H → Prop} {r0 : Nat} {x1 : Int32} : jm_w S 4 250 1 [.ref r0, .int x1] [.int 9] H Q = jm_w S 4 250 166 [.ref r0, .int x1] [] H Q := js2 at250_1 rfl rfl
theorem u250_1_10 {S : Option (Nat × (Nat → Int32))} {H : jm_H} {Q : Option Value → jm_H → Prop} {r0 : Nat} {x1 : Int32} : jm_w S 4 250 1 [.ref r0, .int x1] [.int 10] H Q = jm_w S 4 250 187 [.ref r0, .int x1] [] H Q := js2 at250_1 rfl rfl
theorem u250_1_d {S : Option (Nat × (Nat → Int32))} {H : jm_H} {Q : Option Value → jm_H → Prop} {r0 : Nat} {x1 p0 : Int32} (h : Int32.toInt p0 < 0 ∨ 10 < Int32.toInt p0) : jm_w S 4 250 1 [.ref r0, .int x1] [.int p0] H Q = jm_w S 4 250 206 [.ref r0, .int x1] [] H Q := js2 at250_1 rfl ((if_pos h).trans rfl)
theorem at250_60 : jm_at 250 60 = some (.aload_n 0) := rfl
theorem at250_61 : jm_at 250 61 = some (.getfield 40) := rfl
theorem rv250g_40 : jm_rv 250 (.getfield 40) = (0, 12, 17, 0) := rfl
theorem at250_64 : jm_at 250 64 = some (.iconst 0) := rfl
theorem at250_65 : jm_at 250 65 = some (.iaload) := rfl
theorem at250_66 : jm_at 250 66 = some (.ireturn) := rfl
theorem u250_60 {S : Option (Nat × (Nat → Int32))} {H : jm_H} {Q : Option Value → jm_H → Prop} {r0 : Nat} {x1 : Int32} (h0 : jm_tg H r0 = 13) (h1 : ¬ jm_R H r0 17 = 0) (h2 : ¬ ((0 : Int32) < 0 ∨ jm_ln H (jm_R H r0 17) ≤ Int32.toNatClampNeg (0 : Int32))) (h3 : ¬ (jm_R H r0 17) = 1) (h4 : jm_tg H (jm_R H r0 17) = 100) : jm_w S 4 250 60 [.ref r0, .int x1] [] H Q = Q (some (.int (jm_I H (jm_R H r0 17) (Int32.toNatClampNeg (0 : Int32))))) H := (js1 at250_60 rfl rfl rfl).trans ((jsgR (H := H) at250_61 rv250g_40 rfl h0 h1 rfl).trans ((jsci at250_64 rfl rfl).trans ((jsial (H := H) at250_65 h3 h4 h2 rfl).trans (jsret_i at250_66 rfl))))
theorem at250_67 : jm_at 250 67 = some (.aload_n 0) := rfl
theorem at250_68 : jm_at 250 68 = some (.getfield 40) := rfl
theorem at250_71 : jm_at 250 71 = some (.iconst 1) := rfl
theorem at250_72 : jm_at 250 72 = some (.iaload) := rfl
theorem at250_73 : jm_at 250 73 = some (.ireturn) := rfl
theorem u250_67 {S : Option (Nat × (Nat → Int32))} {H : jm_H} {Q : Option Value → jm_H → Prop} {r0 : Nat} {x1 : Int32} (h0 : jm_tg H r0 = 13) (h1 : ¬ jm_R H r0 17 = 0) (h2 : ¬ ((1 : Int32) < 0 ∨ jm_ln H (jm_R H r0 17) ≤ Int32.toNatClampNeg (1 : Int32))) (h3 : ¬ (jm_R H r0 17) = 1) (h4 : jm_tg H (jm_R H r0 17) = 100) : jm_w S 4 250 67 [.ref r0, .int x1] [] H Q = Q (some (.int (jm_I H (jm_R H r0 17) (Int32.toNatClampNeg (1 : Int32))))) H := (js1 at250_67 rfl rfl rfl).trans ((jsgR (H := H) at250_68 rv250g_40 rfl h0 h1 rfl).trans ((jsci at250_71 rfl rfl).trans ((jsial (H := H) at250_72 h3 h4 h2 rfl).trans (jsret_i at250_73 rfl))))
theorem at250_74 : jm_at 250 74 = some (.aload_n 0) := rfl
theorem at250_75 : jm_at 250 75 = some (.getfield 200) := rfl
theorem rv250g_200 : jm_rv 250 (.getfield 200) = (0, 12, 25, 0) := rfl
theorem at250_78 : jm_at 250 78 = some (.ireturn) := rfl
theorem u250_74 {S : Option (Nat × (Nat → Int32))} {H : jm_H} {Q : Option Value → jm_H → Prop} {r0 : Nat} {x1 : Int32} (h0 : jm_tg H r0 = 13) : jm_w S 4 250 74 [.ref r0, .int x1] [] H Q = Q (some (.int (jm_I H r0 25))) H := (js1 at250_74 rfl rfl rfl).trans ((jsgI (H := H) at250_75 rv250g_200 (Or.inl rfl) h0 rfl).trans (jsret_i at250_78 rfl))
theorem at250_79 : jm_at 250 79 = some (.aload_n 0) := rfl
theorem at250_80 : jm_at 250 80 = some (.getfield 40) := rfl
theorem at250_83 : jm_at 250 83 = some (.iconst 3) := rfl
theorem at250_84 : jm_at 250 84 = some (.iaload) := rfl
theorem at250_85 : jm_at 250 85 = some (.iconst 1) := rfl
theorem at250_86 : jm_at 250 86 = some (.if_icmp .ne 8) := rfl
theorem u250_79 {S : Option (Nat × (Nat → Int32))} {H : jm_H} {Q : Option Value → jm_H → Prop} {r0 : Nat} {x1 : Int32} (h0 : jm_tg H r0 = 13) (h1 : ¬ jm_R H r0 17 = 0) (h2 : ¬ ((3 : Int32) < 0 ∨ jm_ln H (jm_R H r0 17) ≤ Int32.toNatClampNeg (3 : Int32))) (h3 : ¬ (jm_R H r0 17) = 1) (h4 : jm_tg H (jm_R H r0 17) = 100) : jm_w S 4 250 79 [.ref r0, .int x1] [] H Q = if ¬ (jm_I H (jm_R H r0 17) (Int32.toNatClampNeg (3 : Int32))) = (1 : Int32) then jm_w S 4 250 94 [.ref r0, .int x1] [] H Q else jm_w S 4 250 89 [.ref r0, .int x1] [] H Q := (js1 at250_79 rfl rfl rfl).trans ((jsgR (H := H) at250_80 rv250g_40 rfl h0 h1 rfl).trans ((jsci at250_83 rfl rfl).trans ((jsial (H := H) at250_84 h3 h4 h2 rfl).trans ((jsci at250_85 rfl rfl).trans (jsif (P := ¬ (jm_I H (jm_R H r0 17) (Int32.toNatClampNeg (3 : Int32))) = (1 : Int32)) at250_86 rfl rfl)))))
theorem at250_89 : jm_at 250 89 = some (.bipush (-2)) := rfl
theorem at250_91 : jm_at 250 91 = some (.goto 9) := rfl
theorem u250_89 {S : Option (Nat × (Nat → Int32))} {H : jm_H} {Q : Option Value → jm_H → Prop} {r0 : Nat} {x1 : Int32} : jm_w S 4 250 89 [.ref r0, .int x1] [] H Q = jm_w S 4 250 100 [.ref r0, .int x1] [.int (-2 : Int32)] H Q := (jscb at250_89 rfl rfl).trans (js2 at250_91 rfl rfl)
theorem at250_94 : jm_at 250 94 = some (.aload_n 0) := rfl
theorem at250_95 : jm_at 250 95 = some (.getfield 40) := rfl
theorem at250_98 : jm_at 250 98 = some (.iconst 2) := rfl
theorem at250_99 : jm_at 250 99 = some (.iaload) := rfl
theorem u250_94 {S : Option (Nat × (Nat → Int32))} {H : jm_H} {Q : Option Value → jm_H → Prop} {r0 : Nat} {x1 : Int32} (h0 : jm_tg H r0 = 13) (h1 : ¬ jm_R H r0 17 = 0) (h2 : ¬ ((2 : Int32) < 0 ∨ jm_ln H (jm_R H r0 17) ≤ Int32.toNatClampNeg (2 : Int32))) (h3 : ¬ (jm_R H r0 17) = 1) (h4 : jm_tg H (jm_R H r0 17) = 100) : jm_w S 4 250 94 [.ref r0, .int x1] [] H Q = jm_w S 4 250 100 [.ref r0, .int x1] [.int (jm_I H (jm_R H r0 17) (Int32.toNatClampNeg (2 : Int32)))] H Q := (js1 at250_94 rfl rfl rfl).trans ((jsgR (H := H) at250_95 rv250g_40 rfl h0 h1 rfl).trans ((jsci at250_98 rfl rfl).trans (jsial (H := H) at250_99 h3 h4 h2 rfl)))
theorem at250_100 : jm_at 250 100 = some (.ireturn) := rfl
theorem u250_100 {S : Option (Nat × (Nat → Int32))} {H : jm_H} {Q : Option Value → jm_H → Prop} {r0 : Nat} {x1 p0 : Int32} : jm_w S 4 250 100 [.ref r0, .int x1] [.int p0] H Q = Q (some (.int p0)) H := jsret_i at250_100 rfl
theorem at250_101 : jm_at 250 101 = some (.aload_n 0) := rfl
theorem at250_102 : jm_at 250 102 = some (.invokevirtual 451) := rfl
theorem rv250i_451 : jm_rv 250 (.invokevirtual 451) = (2, 251, 0, 0) := rfl
theorem u250_101 {S : Option (Nat × (Nat → Int32))} {H : jm_H} {Q : Option Value → jm_H → Prop} {r0 : Nat} {x1 : Int32} (h0 : jm_tg H r0 = 13) : jm_w S 4 250 101 [.ref r0, .int x1] [] H Q = jm_c S 251 [.ref r0] H (fun v G => jm_w S 4 250 105 [.ref r0, .int x1] (v.toList ++ []) G Q) := (js1 at250_101 rfl rfl rfl).trans (jscall (H := H) (as := [.ref r0]) (q := []) at250_102 rfl rv250i_451 (jscutV rfl rfl rfl (Nat.le_of_ble_eq_true rfl) rfl h0) rfl (Nat.le_of_ble_eq_true rfl) rfl rfl)
theorem at250_105 : jm_at 250 105 = some (.ireturn) := rfl
theorem u250_105 {S : Option (Nat × (Nat → Int32))} {H : jm_H} {Q : Option Value → jm_H → Prop} {r0 : Nat} {x1 p0 : Int32} : jm_w S 4 250 105 [.ref r0, .int x1] [.int p0] H Q = Q (some (.int p0)) H := jsret_i at250_105 rfl
theorem at250_106 : jm_at 250 106 = some (.aload_n 0) := rfl
theorem at250_107 : jm_at 250 107 = some (.invokevirtual 455) := rfl
theorem rv250i_455 : jm_rv 250 (.invokevirtual 455) = (2, 252, 0, 0) := rfl
theorem u250_106 {S : Option (Nat × (Nat → Int32))} {H : jm_H} {Q : Option Value → jm_H → Prop} {r0 : Nat} {x1 : Int32} (h0 : jm_tg H r0 = 13) : jm_w S 4 250 106 [.ref r0, .int x1] [] H Q = jm_c S 252 [.ref r0] H (fun v G => jm_w S 4 250 110 [.ref r0, .int x1] (v.toList ++ []) G Q) := (js1 at250_106 rfl rfl rfl).trans (jscall (H := H) (as := [.ref r0]) (q := []) at250_107 rfl rv250i_455 (jscutV rfl rfl rfl (Nat.le_of_ble_eq_true rfl) rfl h0) rfl (Nat.le_of_ble_eq_true rfl) rfl rfl)
theorem at250_110 : jm_at 250 110 = some (.ireturn) := rfl
theorem u250_110 {S : Option (Nat × (Nat → Int32))} {H : jm_H} {Q : Option Value → jm_H → Prop} {r0 : Nat} {x1 p0 : Int32} : jm_w S 4 250 110 [.ref r0, .int x1] [.int p0] H Q = Q (some (.int p0)) H := jsret_i at250_110 rfl
theorem at250_111 : jm_at 250 111 = some (.aload_n 0) := rfl
theorem at250_112 : jm_at 250 112 = some (.getfield 108) := rfl
theorem rv250g_108 : jm_rv 250 (.getfield 108) = (0, 12, 2, 0) := rfl
theorem at250_115 : jm_at 250 115 = some (.ireturn) := rfl
theorem u250_111 {S : Option (Nat × (Nat → Int32))} {H : jm_H} {Q : Option Value → jm_H → Prop} {r0 : Nat} {x1 : Int32} (h0 : jm_tg H r0 = 13) : jm_w S 4 250 111 [.ref r0, .int x1] [] H Q = Q (some (.int (jm_I H r0 2))) H := (js1 at250_111 rfl rfl rfl).trans ((jsgI (H := H) at250_112 rv250g_108 (Or.inl rfl) h0 rfl).trans (jsret_i at250_115 rfl))
theorem at250_116 : jm_at 250 116 = some (.aload_n 0) := rfl
theorem at250_117 : jm_at 250 117 = some (.getfield 206) := rfl
theorem rv250g_206 : jm_rv 250 (.getfield 206) = (0, 12, 40, 0) := rfl
theorem at250_120 : jm_at 250 120 = some (.ireturn) := rfl
theorem u250_116 {S : Option (Nat × (Nat → Int32))} {H : jm_H} {Q : Option Value → jm_H → Prop} {r0 : Nat} {x1 : Int32} (h0 : jm_tg H r0 = 13) : jm_w S 4 250 116 [.ref r0, .int x1] [] H Q = Q (some (.int (jm_I H r0 40))) H := (js1 at250_116 rfl rfl rfl).trans ((jsgI (H := H) at250_117 rv250g_206 (Or.inl rfl) h0 rfl).trans (jsret_i at250_120 rfl))
theorem at250_121 : jm_at 250 121 = some (.aload_n 0) := rfl
theorem at250_122 : jm_at 250 122 = some (.getfield 88) := rfl
theorem rv250g_88 : jm_rv 250 (.getfield 88) = (0, 12, 42, 0) := rfl
theorem at250_125 : jm_at 250 125 = some (.iconst 0) := rfl
theorem at250_126 : jm_at 250 126 = some (.baload) := rfl
theorem at250_127 : jm_at 250 127 = some (.ifCond .eq 7) := rfl
theorem u250_121 {S : Option (Nat × (Nat → Int32))} {H : jm_H} {Q : Option Value → jm_H → Prop} {r0 : Nat} {x1 : Int32} (h0 : jm_tg H r0 = 13) (h1 : ¬ jm_R H r0 42 = 0) (h2 : ¬ ((0 : Int32) < 0 ∨ jm_ln H (jm_R H r0 42) ≤ Int32.toNatClampNeg (0 : Int32))) (h3 : jm_tg H (jm_R H r0 42) = 102 ∨ jm_tg H (jm_R H r0 42) = 103) : jm_w S 4 250 121 [.ref r0, .int x1] [] H Q = if (jm_I H (jm_R H r0 42) (Int32.toNatClampNeg (0 : Int32))) = 0 then jm_w S 4 250 134 [.ref r0, .int x1] [] H Q else jm_w S 4 250 130 [.ref r0, .int x1] [] H Q := (js1 at250_121 rfl rfl rfl).trans ((jsgR (H := H) at250_122 rv250g_88 rfl h0 h1 rfl).trans ((jsci at250_125 rfl rfl).trans ((jsbal (H := H) at250_126 h3 h2 rfl).trans (jsif (P := (jm_I H (jm_R H r0 42) (Int32.toNatClampNeg (0 : Int32))) = 0) at250_127 rfl rfl))))
theorem at250_130 : jm_at 250 130 = some (.iconst 1) := rfl
theorem at250_131 : jm_at 250 131 = some (.goto 4) := rfl
theorem u250_130 {S : Option (Nat × (Nat → Int32))} {H : jm_H} {Q : Option Value → jm_H → Prop} {r0 : Nat} {x1 : Int32} : jm_w S 4 250 130 [.ref r0, .int x1] [] H Q = jm_w S 4 250 135 [.ref r0, .int x1] [.int (1 : Int32)] H Q := (jsci at250_130 rfl rfl).trans (js2 at250_131 rfl rfl)
theorem at250_134 : jm_at 250 134 = some (.iconst 0) := rfl
theorem u250_134 {S : Option (Nat × (Nat → Int32))} {H : jm_H} {Q : Option Value → jm_H → Prop} {r0 : Nat} {x1 : Int32} : jm_w S 4 250 134 [.ref r0, .int x1] [] H Q = jm_w S 4 250 135 [.ref r0, .int x1] [.int (0 : Int32)] H Q := jsci at250_134 rfl rfl
theorem at250_135 : jm_at 250 135 = some (.aload_n 0) := rfl
theorem at250_136 : jm_at 250 136 = some (.getfield 88) := rfl
theorem at250_139 : jm_at 250 139 = some (.iconst 1) := rfl
theorem at250_140 : jm_at 250 140 = some (.baload) := rfl
theorem at250_141 : jm_at 250 141 = some (.ifCond .eq 7) := rfl
theorem u250_135 {S : Option (Nat × (Nat → Int32))} {H : jm_H} {Q : Option Value → jm_H → Prop} {r0 : Nat} {x1 p0 : Int32} (h0 : jm_tg H r0 = 13) (h1 : ¬ jm_R H r0 42 = 0) (h2 : ¬ ((1 : Int32) < 0 ∨ jm_ln H (jm_R H r0 42) ≤ Int32.toNatClampNeg (1 : Int32))) (h3 : jm_tg H (jm_R H r0 42) = 102 ∨ jm_tg H (jm_R H r0 42) = 103) : jm_w S 4 250 135 [.ref r0, .int x1] [.int p0] H Q = if (jm_I H (jm_R H r0 42) (Int32.toNatClampNeg (1 : Int32))) = 0 then jm_w S 4 250 148 [.ref r0, .int x1] [.int p0] H Q else jm_w S 4 250 144 [.ref r0, .int x1] [.int p0] H Q := (js1 at250_135 rfl rfl rfl).trans ((jsgR (H := H) at250_136 rv250g_88 rfl h0 h1 rfl).trans ((jsci at250_139 rfl rfl).trans ((jsbal (H := H) at250_140 h3 h2 rfl).trans (jsif (P := (jm_I H (jm_R H r0 42) (Int32.toNatClampNeg (1 : Int32))) = 0) at250_141 rfl rfl))))
theorem at250_144 : jm_at 250 144 = some (.iconst 1) := rfl
theorem at250_145 : jm_at 250 145 = some (.goto 4) := rfl
theorem u250_144 {S : Option (Nat × (Nat → Int32))} {H : jm_H} {Q : Option Value → jm_H → Prop} {r0 : Nat} {x1 p0 : Int32} : jm_w S 4 250 144 [.ref r0, .int x1] [.int p0] H Q = jm_w S 4 250 149 [.ref r0, .int x1] [.int (1 : Int32), .int p0] H Q := (jsci at250_144 rfl rfl).trans (js2 at250_145 rfl rfl)
theorem at250_148 : jm_at 250 148 = some (.iconst 0) := rfl
theorem u250_148 {S : Option (Nat × (Nat → Int32))} {H : jm_H} {Q : Option Value → jm_H → Prop} {r0 : Nat} {x1 p0 : Int32} : jm_w S 4 250 148 [.ref r0, .int x1] [.int p0] H Q = jm_w S 4 250 149 [.ref r0, .int x1] [.int (0 : Int32), .int p0] H Q := jsci at250_148 rfl rfl
theorem at250_149 : jm_at 250 149 = some (.iadd) := rfl
theorem at250_150 : jm_at 250 150 = some (.aload_n 0) := rfl
theorem at250_151 : jm_at 250 151 = some (.getfield 88) := rfl
theorem at250_154 : jm_at 250 154 = some (.iconst 2) := rfl
theorem at250_155 : jm_at 250 155 = some (.baload) := rfl
theorem at250_156 : jm_at 250 156 = some (.ifCond .eq 7) := rfl
theorem u250_149 {S : Option (Nat × (Nat → Int32))} {H : jm_H} {Q : Option Value → jm_H → Prop} {r0 : Nat} {x1 p0 p1 : Int32} (h0 : jm_tg H r0 = 13) (h1 : ¬ jm_R H r0 42 = 0) (h2 : ¬ ((2 : Int32) < 0 ∨ jm_ln H (jm_R H r0 42) ≤ Int32.toNatClampNeg (2 : Int32))) (h3 : jm_tg H (jm_R H r0 42) = 102 ∨ jm_tg H (jm_R H r0 42) = 103) : jm_w S 4 250 149 [.ref r0, .int x1] [.int p1, .int p0] H Q = if (jm_I H (jm_R H r0 42) (Int32.toNatClampNeg (2 : Int32))) = 0 then jm_w S 4 250 163 [.ref r0, .int x1] [.int (p0 + p1)] H Q else jm_w S 4 250 159 [.ref r0, .int x1] [.int (p0 + p1)] H Q := (js0 at250_149 rfl rfl rfl).trans ((js1 at250_150 rfl rfl rfl).trans ((jsgR (H := H) at250_151 rv250g_88 rfl h0 h1 rfl).trans ((jsci at250_154 rfl rfl).trans ((jsbal (H := H) at250_155 h3 h2 rfl).trans (jsif (P := (jm_I H (jm_R H r0 42) (Int32.toNatClampNeg (2 : Int32))) = 0) at250_156 rfl rfl)))))
theorem at250_159 : jm_at 250 159 = some (.iconst 1) := rfl
theorem at250_160 : jm_at 250 160 = some (.goto 4) := rfl
theorem u250_159 {S : Option (Nat × (Nat → Int32))} {H : jm_H} {Q : Option Value → jm_H → Prop} {r0 : Nat} {x1 p0 : Int32} : jm_w S 4 250 159 [.ref r0, .int x1] [.int p0] H Q = jm_w S 4 250 164 [.ref r0, .int x1] [.int (1 : Int32), .int p0] H Q := (jsci at250_159 rfl rfl).trans (js2 at250_160 rfl rfl)
theorem at250_163 : jm_at 250 163 = some (.iconst 0) := rfl
theorem u250_163 {S : Option (Nat × (Nat → Int32))} {H : jm_H} {Q : Option Value → jm_H → Prop} {r0 : Nat} {x1 p0 : Int32} : jm_w S 4 250 163 [.ref r0, .int x1] [.int p0] H Q = jm_w S 4 250 164 [.ref r0, .int x1] [.int (0 : Int32), .int p0] H Q := jsci at250_163 rfl rfl
theorem at250_164 : jm_at 250 164 = some (.iadd) := rfl
theorem at250_165 : jm_at 250 165 = some (.ireturn) := rfl
theorem u250_164 {S : Option (Nat × (Nat → Int32))} {H : jm_H} {Q : Option Value → jm_H → Prop} {r0 : Nat} {x1 p0 p1 : Int32} : jm_w S 4 250 164 [.ref r0, .int x1] [.int p1, .int p0] H Q = Q (some (.int (p0 + p1))) H := (js0 at250_164 rfl rfl rfl).trans (jsret_i at250_165 rfl)
theorem at250_166 : jm_at 250 166 = some (.aload_n 0) := rfl
theorem at250_167 : jm_at 250 167 = some (.getfield 40) := rfl
theorem at250_170 : jm_at 250 170 = some (.iconst 3) := rfl
theorem at250_171 : jm_at 250 171 = some (.iaload) := rfl
theorem at250_172 : jm_at 250 172 = some (.iconst 1) := rfl
theorem at250_173 : jm_at 250 173 = some (.if_icmp .ne 9) := rfl
theorem u250_166 {S : Option (Nat × (Nat → Int32))} {H : jm_H} {Q : Option Value → jm_H → Prop} {r0 : Nat} {x1 : Int32} (h0 : jm_tg H r0 = 13) (h1 : ¬ jm_R H r0 17 = 0) (h2 : ¬ ((3 : Int32) < 0 ∨ jm_ln H (jm_R H r0 17) ≤ Int32.toNatClampNeg (3 : Int32))) (h3 : ¬ (jm_R H r0 17) = 1) (h4 : jm_tg H (jm_R H r0 17) = 100) : jm_w S 4 250 166 [.ref r0, .int x1] [] H Q = if ¬ (jm_I H (jm_R H r0 17) (Int32.toNatClampNeg (3 : Int32))) = (1 : Int32) then jm_w S 4 250 182 [.ref r0, .int x1] [] H Q else jm_w S 4 250 176 [.ref r0, .int x1] [] H Q := (js1 at250_166 rfl rfl rfl).trans ((jsgR (H := H) at250_167 rv250g_40 rfl h0 h1 rfl).trans ((jsci at250_170 rfl rfl).trans ((jsial (H := H) at250_171 h3 h4 h2 rfl).trans ((jsci at250_172 rfl rfl).trans (jsif (P := ¬ (jm_I H (jm_R H r0 17) (Int32.toNatClampNeg (3 : Int32))) = (1 : Int32)) at250_173 rfl rfl)))))
theorem at250_176 : jm_at 250 176 = some (.sipush (-1000)) := rfl
theorem at250_179 : jm_at 250 179 = some (.goto 7) := rfl
theorem u250_176 {S : Option (Nat × (Nat → Int32))} {H : jm_H} {Q : Option Value → jm_H → Prop} {r0 : Nat} {x1 : Int32} : jm_w S 4 250 176 [.ref r0, .int x1] [] H Q = jm_w S 4 250 186 [.ref r0, .int x1] [.int (-1000 : Int32)] H Q := (jscs at250_176 rfl rfl).trans (js2 at250_179 rfl rfl)
theorem at250_182 : jm_at 250 182 = some (.aload_n 0) := rfl
theorem at250_183 : jm_at 250 183 = some (.invokevirtual 458) := rfl
theorem rv250i_458 : jm_rv 250 (.invokevirtual 458) = (2, 253, 0, 0) := rfl
theorem u250_182 {S : Option (Nat × (Nat → Int32))} {H : jm_H} {Q : Option Value → jm_H → Prop} {r0 : Nat} {x1 : Int32} (h0 : jm_tg H r0 = 13) : jm_w S 4 250 182 [.ref r0, .int x1] [] H Q = jm_c S 253 [.ref r0] H (fun v G => jm_w S 4 250 186 [.ref r0, .int x1] (v.toList ++ []) G Q) := (js1 at250_182 rfl rfl rfl).trans (jscall (H := H) (as := [.ref r0]) (q := []) at250_183 rfl rv250i_458 (jscutV rfl rfl rfl (Nat.le_of_ble_eq_true rfl) rfl h0) rfl (Nat.le_of_ble_eq_true rfl) rfl rfl)
theorem at250_186 : jm_at 250 186 = some (.ireturn) := rfl
theorem u250_186 {S : Option (Nat × (Nat → Int32))} {H : jm_H} {Q : Option Value → jm_H → Prop} {r0 : Nat} {x1 p0 : Int32} : jm_w S 4 250 186 [.ref r0, .int x1] [.int p0] H Q = Q (some (.int p0)) H := jsret_i at250_186 rfl
theorem at250_187 : jm_at 250 187 = some (.aload_n 0) := rfl
theorem at250_188 : jm_at 250 188 = some (.getfield 40) := rfl
theorem at250_191 : jm_at 250 191 = some (.iconst 3) := rfl
theorem at250_192 : jm_at 250 192 = some (.iaload) := rfl
theorem at250_193 : jm_at 250 193 = some (.iconst 1) := rfl
theorem at250_194 : jm_at 250 194 = some (.if_icmp .ne 7) := rfl
theorem u250_187 {S : Option (Nat × (Nat → Int32))} {H : jm_H} {Q : Option Value → jm_H → Prop} {r0 : Nat} {x1 : Int32} (h0 : jm_tg H r0 = 13) (h1 : ¬ jm_R H r0 17 = 0) (h2 : ¬ ((3 : Int32) < 0 ∨ jm_ln H (jm_R H r0 17) ≤ Int32.toNatClampNeg (3 : Int32))) (h3 : ¬ (jm_R H r0 17) = 1) (h4 : jm_tg H (jm_R H r0 17) = 100) : jm_w S 4 250 187 [.ref r0, .int x1] [] H Q = if ¬ (jm_I H (jm_R H r0 17) (Int32.toNatClampNeg (3 : Int32))) = (1 : Int32) then jm_w S 4 250 201 [.ref r0, .int x1] [] H Q else jm_w S 4 250 197 [.ref r0, .int x1] [] H Q := (js1 at250_187 rfl rfl rfl).trans ((jsgR (H := H) at250_188 rv250g_40 rfl h0 h1 rfl).trans ((jsci at250_191 rfl rfl).trans ((jsial (H := H) at250_192 h3 h4 h2 rfl).trans ((jsci at250_193 rfl rfl).trans (jsif (P := ¬ (jm_I H (jm_R H r0 17) (Int32.toNatClampNeg (3 : Int32))) = (1 : Int32)) at250_194 rfl rfl)))))
theorem at250_197 : jm_at 250 197 = some (.iconst 0) := rfl
theorem at250_198 : jm_at 250 198 = some (.goto 7) := rfl
theorem u250_197 {S : Option (Nat × (Nat → Int32))} {H : jm_H} {Q : Option Value → jm_H → Prop} {r0 : Nat} {x1 : Int32} : jm_w S 4 250 197 [.ref r0, .int x1] [] H Q = jm_w S 4 250 205 [.ref r0, .int x1] [.int (0 : Int32)] H Q := (jsci at250_197 rfl rfl).trans (js2 at250_198 rfl rfl)
theorem at250_201 : jm_at 250 201 = some (.aload_n 0) := rfl
theorem at250_202 : jm_at 250 202 = some (.invokevirtual 461) := rfl
theorem rv250i_461 : jm_rv 250 (.invokevirtual 461) = (2, 254, 0, 0) := rfl
theorem u250_201 {S : Option (Nat × (Nat → Int32))} {H : jm_H} {Q : Option Value → jm_H → Prop} {r0 : Nat} {x1 : Int32} (h0 : jm_tg H r0 = 13) : jm_w S 4 250 201 [.ref r0, .int x1] [] H Q = jm_c S 254 [.ref r0] H (fun v G => jm_w S 4 250 205 [.ref r0, .int x1] (v.toList ++ []) G Q) := (js1 at250_201 rfl rfl rfl).trans (jscall (H := H) (as := [.ref r0]) (q := []) at250_202 rfl rv250i_461 (jscutV rfl rfl rfl (Nat.le_of_ble_eq_true rfl) rfl h0) rfl (Nat.le_of_ble_eq_true rfl) rfl rfl)
theorem at250_205 : jm_at 250 205 = some (.ireturn) := rfl
theorem u250_205 {S : Option (Nat × (Nat → Int32))} {H : jm_H} {Q : Option Value → jm_H → Prop} {r0 : Nat} {x1 p0 : Int32} : jm_w S 4 250 205 [.ref r0, .int x1] [.int p0] H Q = Q (some (.int p0)) H := jsret_i at250_205 rfl
theorem at250_206 : jm_at 250 206 = some (.iconst (-1)) := rfl
theorem at250_207 : jm_at 250 207 = some (.ireturn) := rfl
theorem u250_206 {S : Option (Nat × (Nat → Int32))} {H : jm_H} {Q : Option Value → jm_H → Prop} {r0 : Nat} {x1 : Int32} : jm_w S 4 250 206 [.ref r0, .int x1] [] H Q = Q (some (.int (-1 : Int32))) H := (jsci at250_206 rfl rfl).trans (jsret_i at250_207 rfl)
theorem en250 {S : Option (Nat × (Nat → Int32))} {H : jm_H} {Q : Option Value → jm_H → Prop} {r0 : Nat} {x1 : Int32} : jm_c S 250 [.ref r0, .int x1] H Q = jm_w S 4 250 0 [.ref r0, .int x1] [] H Q := rfl
theorem at251_0 : jm_at 251 0 = some (.iconst 0) := rfl
theorem at251_1 : jm_at 251 1 = some (.istore_n 1) := rfl
theorem at251_2 : jm_at 251 2 = some (.iconst 0) := rfl
theorem at251_3 : jm_at 251 3 = some (.istore_n 2) := rfl
theorem u251_0 {S : Option (Nat × (Nat → Int32))} {H : jm_H} {Q : Option Value → jm_H → Prop} {r0 : Nat} : jm_w S 3 251 0 [.ref r0, .null, .null] [] H Q = jm_w S 3 251 4 [.ref r0, .int (0 : Int32), .int (0 : Int32)] [] H Q := (jsci at251_0 rfl rfl).trans ((js1 at251_1 rfl rfl rfl).trans ((jsci at251_2 rfl rfl).trans (js1 at251_3 rfl rfl rfl)))
theorem at251_4 : jm_at 251 4 = some (.iload_n 2) := rfl
theorem at251_5 : jm_at 251 5 = some (.aload_n 0) := rfl
theorem at251_6 : jm_at 251 6 = some (.getfield 200) := rfl
theorem rv251g_200 : jm_rv 251 (.getfield 200) = (0, 12, 25, 0) := rfl
theorem at251_9 : jm_at 251 9 = some (.if_icmp .ge 33) := rfl
theorem u251_4 {S : Option (Nat × (Nat → Int32))} {H : jm_H} {Q : Option Value → jm_H → Prop} {r0 : Nat} {x1 x2 : Int32} (h0 : jm_tg H r0 = 13) : jm_w S 3 251 4 [.ref r0, .int x1, .int x2] [] H Q = if (jm_I H r0 25) ≤ x2 then jm_w S 3 251 42 [.ref r0, .int x1, .int x2] [] H Q else jm_w S 3 251 12 [.ref r0, .int x1, .int x2] [] H Q := (js1 at251_4 rfl rfl rfl).trans ((js1 at251_5 rfl rfl rfl).trans ((jsgI (H := H) at251_6 rv251g_200 (Or.inl rfl) h0 rfl).trans (jsif (P := (jm_I H r0 25) ≤ x2) at251_9 rfl rfl)))
theorem at251_12 : jm_at 251 12 = some (.aload_n 0) := rfl
theorem at251_13 : jm_at 251 13 = some (.getfield 40) := rfl
theorem rv251g_40 : jm_rv 251 (.getfield 40) = (0, 12, 17, 0) := rfl
theorem at251_16 : jm_at 251 16 = some (.iconst 0) := rfl
theorem at251_17 : jm_at 251 17 = some (.iaload) := rfl
theorem at251_18 : jm_at 251 18 = some (.aload_n 0) := rfl
theorem at251_19 : jm_at 251 19 = some (.getfield 55) := rfl
theorem rv251g_55 : jm_rv 251 (.getfield 55) = (0, 12, 24, 0) := rfl
theorem at251_22 : jm_at 251 22 = some (.iload_n 2) := rfl
theorem at251_23 : jm_at 251 23 = some (.iaload) := rfl
theorem at251_24 : jm_at 251 24 = some (.invokestatic 276) := rfl
theorem rv251i_276 : jm_rv 251 (.invokestatic 276) = (1, 204, 0, 0) := rfl
theorem u251_12 {S : Option (Nat × (Nat → Int32))} {H : jm_H} {Q : Option Value → jm_H → Prop} {r0 : Nat} {x1 x2 : Int32} (h0 : jm_tg H r0 = 13) (h1 : ¬ jm_R H r0 17 = 0) (h2 : ¬ ((0 : Int32) < 0 ∨ jm_ln H (jm_R H r0 17) ≤ Int32.toNatClampNeg (0 : Int32))) (h3 : ¬ (jm_R H r0 17) = 1) (h4 : jm_tg H (jm_R H r0 17) = 100) (h5 : ¬ jm_R H r0 24 = 0) (h6 : ¬ (x2 < 0 ∨ jm_ln H (jm_R H r0 24) ≤ Int32.toNatClampNeg x2)) (h7 : ¬ (jm_R H r0 24) = 1) (h8 : jm_tg H (jm_R H r0 24) = 100) : jm_w S 3 251 12 [.ref r0, .int x1, .int x2] [] H Q = jm_c S 204 [.int (jm_I H (jm_R H r0 17) (Int32.toNatClampNeg (0 : Int32))), .int (jm_I H (jm_R H r0 24) (Int32.toNatClampNeg x2))] H (fun v G => jm_w S 3 251 27 [.ref r0, .int x1, .int x2] (v.toList ++ []) G Q) := (js1 at251_12 rfl rfl rfl).trans ((jsgR (H := H) at251_13 rv251g_40 rfl h0 h1 rfl).trans ((jsci at251_16 rfl rfl).trans ((jsial (H := H) at251_17 h3 h4 h2 rfl).trans ((js1 at251_18 rfl rfl rfl).trans ((jsgR (H := H) at251_19 rv251g_55 rfl h0 h5 rfl).trans ((js1 at251_22 rfl rfl rfl).trans ((jsial (H := H) at251_23 h7 h8 h6 rfl).trans (jscall (H := H) (as := [.int (jm_I H (jm_R H r0 17) (Int32.toNatClampNeg (0 : Int32))), .int (jm_I H (jm_R H r0 24) (Int32.toNatClampNeg x2))]) (q := []) at251_24 rfl rv251i_276 (jscut rfl rfl rfl (Nat.le_of_ble_eq_true rfl)) rfl (Nat.le_of_ble_eq_true rfl) rfl rfl))))))))
theorem at251_27 : jm_at 251 27 = some (.ifCond .eq 9) := rfl
theorem u251_27 {S : Option (Nat × (Nat → Int32))} {H : jm_H} {Q : Option Value → jm_H → Prop} {r0 : Nat} {x1 x2 p0 : Int32} : jm_w S 3 251 27 [.ref r0, .int x1, .int x2] [.int p0] H Q = if p0 = 0 then jm_w S 3 251 36 [.ref r0, .int x1, .int x2] [] H Q else jm_w S 3 251 30 [.ref r0, .int x1, .int x2] [] H Q := jsif (P := p0 = 0) at251_27 rfl rfl
theorem at251_30 : jm_at 251 30 = some (.iload_n 1) := rfl
theorem at251_31 : jm_at 251 31 = some (.iconst 1) := rfl
theorem at251_32 : jm_at 251 32 = some (.iload_n 2) := rfl
theorem at251_33 : jm_at 251 33 = some (.ishl) := rfl
theorem at251_34 : jm_at 251 34 = some (.ior) := rfl
theorem at251_35 : jm_at 251 35 = some (.istore_n 1) := rfl
theorem u251_30 {S : Option (Nat × (Nat → Int32))} {H : jm_H} {Q : Option Value → jm_H → Prop} {r0 : Nat} {x1 x2 : Int32} : jm_w S 3 251 30 [.ref r0, .int x1, .int x2] [] H Q = jm_w S 3 251 36 [.ref r0, .int (x1 ||| ((1 : Int32) <<< (x2 &&& 31))), .int x2] [] H Q := (js1 at251_30 rfl rfl rfl).trans ((jsci at251_31 rfl rfl).trans ((js1 at251_32 rfl rfl rfl).trans ((js0 at251_33 rfl rfl rfl).trans ((js0 at251_34 rfl rfl rfl).trans (js1 at251_35 rfl rfl rfl)))))
theorem at251_36 : jm_at 251 36 = some (.iinc 2 1) := rfl
theorem at251_39 : jm_at 251 39 = some (.goto (-35)) := rfl
theorem u251_36 {S : Option (Nat × (Nat → Int32))} {H : jm_H} {Q : Option Value → jm_H → Prop} {r0 : Nat} {x1 x2 : Int32} : jm_w S 3 251 36 [.ref r0, .int x1, .int x2] [] H Q = jm_w S 3 251 4 [.ref r0, .int x1, .int (x2 + 1)] [] H Q := (jsinc at251_36 rfl rfl rfl).trans (js2 at251_39 rfl rfl)
theorem at251_42 : jm_at 251 42 = some (.iload_n 1) := rfl
theorem at251_43 : jm_at 251 43 = some (.ireturn) := rfl
theorem u251_42 {S : Option (Nat × (Nat → Int32))} {H : jm_H} {Q : Option Value → jm_H → Prop} {r0 : Nat} {x1 x2 : Int32} : jm_w S 3 251 42 [.ref r0, .int x1, .int x2] [] H Q = Q (some (.int x1)) H := (js1 at251_42 rfl rfl rfl).trans (jsret_i at251_43 rfl)
theorem en251 {S : Option (Nat × (Nat → Int32))} {H : jm_H} {Q : Option Value → jm_H → Prop} {r0 : Nat} : jm_c S 251 [.ref r0] H Q = jm_w S 3 251 0 [.ref r0, .null, .null] [] H Q := rfl
theorem at252_0 : jm_at 252 0 = some (.iconst 0) := rfl
theorem at252_1 : jm_at 252 1 = some (.istore_n 1) := rfl
theorem at252_2 : jm_at 252 2 = some (.iconst 0) := rfl
theorem at252_3 : jm_at 252 3 = some (.istore_n 2) := rfl
theorem u252_0 {S : Option (Nat × (Nat → Int32))} {H : jm_H} {Q : Option Value → jm_H → Prop} {r0 : Nat} : jm_w S 1 252 0 [.ref r0, .null, .null, .null, .null] [] H Q = jm_w S 1 252 4 [.ref r0, .int (0 : Int32), .int (0 : Int32), .null, .null] [] H Q := (jsci at252_0 rfl rfl).trans ((js1 at252_1 rfl rfl rfl).trans ((jsci at252_2 rfl rfl).trans (js1 at252_3 rfl rfl rfl)))
theorem at252_4 : jm_at 252 4 = some (.iload_n 2) := rfl
theorem at252_5 : jm_at 252 5 = some (.aload_n 0) := rfl
theorem at252_6 : jm_at 252 6 = some (.getfield 200) := rfl
theorem rv252g_200 : jm_rv 252 (.getfield 200) = (0, 12, 25, 0) := rfl
theorem at252_9 : jm_at 252 9 = some (.if_icmp .ge 59) := rfl
theorem u252_4 {S : Option (Nat × (Nat → Int32))} {H : jm_H} {Q : Option Value → jm_H → Prop} {r0 : Nat} {x1 x2 : Int32} {w3 w4 : Value} (h0 : jm_tg H r0 = 13) : jm_w S 1 252 4 [.ref r0, .int x1, .int x2, w3, w4] [] H Q = if (jm_I H r0 25) ≤ x2 then jm_w S 1 252 68 [.ref r0, .int x1, .int x2, w3, w4] [] H Q else jm_w S 1 252 12 [.ref r0, .int x1, .int x2, w3, w4] [] H Q := (js1 at252_4 rfl rfl rfl).trans ((js1 at252_5 rfl rfl rfl).trans ((jsgI (H := H) at252_6 rv252g_200 (Or.inl rfl) h0 rfl).trans (jsif (P := (jm_I H r0 25) ≤ x2) at252_9 rfl rfl)))
theorem at252_12 : jm_at 252 12 = some (.iconst 1) := rfl
theorem at252_13 : jm_at 252 13 = some (.istore_n 3) := rfl
theorem at252_14 : jm_at 252 14 = some (.iconst 0) := rfl
theorem at252_15 : jm_at 252 15 = some (.istore 4) := rfl
theorem u252_12 {S : Option (Nat × (Nat → Int32))} {H : jm_H} {Q : Option Value → jm_H → Prop} {r0 : Nat} {x1 x2 : Int32} {w3 w4 : Value} : jm_w S 1 252 12 [.ref r0, .int x1, .int x2, w3, w4] [] H Q = jm_w S 1 252 17 [.ref r0, .int x1, .int x2, .int (1 : Int32), .int (0 : Int32)] [] H Q := (jsci at252_12 rfl rfl).trans ((js1 at252_13 rfl rfl rfl).trans ((jsci at252_14 rfl rfl).trans (js1 at252_15 rfl rfl rfl)))
theorem at252_17 : jm_at 252 17 = some (.iload 4) := rfl
theorem at252_19 : jm_at 252 19 = some (.iload_n 2) := rfl
theorem at252_20 : jm_at 252 20 = some (.if_icmp .ge 35) := rfl
theorem u252_17 {S : Option (Nat × (Nat → Int32))} {H : jm_H} {Q : Option Value → jm_H → Prop} {r0 : Nat} {x1 x2 x3 x4 : Int32} : jm_w S 1 252 17 [.ref r0, .int x1, .int x2, .int x3, .int x4] [] H Q = if x2 ≤ x4 then jm_w S 1 252 55 [.ref r0, .int x1, .int x2, .int x3, .int x4] [] H Q else jm_w S 1 252 23 [.ref r0, .int x1, .int x2, .int x3, .int x4] [] H Q := (js1 at252_17 rfl rfl rfl).trans ((js1 at252_19 rfl rfl rfl).trans (jsif (P := x2 ≤ x4) at252_20 rfl rfl))
theorem at252_23 : jm_at 252 23 = some (.iload_n 3) := rfl
theorem at252_24 : jm_at 252 24 = some (.ifCond .eq 23) := rfl
theorem u252_23 {S : Option (Nat × (Nat → Int32))} {H : jm_H} {Q : Option Value → jm_H → Prop} {r0 : Nat} {x1 x2 x3 x4 : Int32} : jm_w S 1 252 23 [.ref r0, .int x1, .int x2, .int x3, .int x4] [] H Q = if x3 = 0 then jm_w S 1 252 47 [.ref r0, .int x1, .int x2, .int x3, .int x4] [] H Q else jm_w S 1 252 27 [.ref r0, .int x1, .int x2, .int x3, .int x4] [] H Q := (js1 at252_23 rfl rfl rfl).trans (jsif (P := x3 = 0) at252_24 rfl rfl)
theorem at252_27 : jm_at 252 27 = some (.aload_n 0) := rfl
theorem at252_28 : jm_at 252 28 = some (.getfield 55) := rfl
theorem rv252g_55 : jm_rv 252 (.getfield 55) = (0, 12, 24, 0) := rfl
theorem at252_31 : jm_at 252 31 = some (.iload 4) := rfl
theorem at252_33 : jm_at 252 33 = some (.iaload) := rfl
theorem at252_34 : jm_at 252 34 = some (.aload_n 0) := rfl
theorem at252_35 : jm_at 252 35 = some (.getfield 55) := rfl
theorem at252_38 : jm_at 252 38 = some (.iload_n 2) := rfl
theorem at252_39 : jm_at 252 39 = some (.iaload) := rfl
theorem at252_40 : jm_at 252 40 = some (.if_icmp .eq 7) := rfl
theorem u252_27 {S : Option (Nat × (Nat → Int32))} {H : jm_H} {Q : Option Value → jm_H → Prop} {r0 : Nat} {x1 x2 x3 x4 : Int32} (h0 : jm_tg H r0 = 13) (h1 : ¬ jm_R H r0 24 = 0) (h2 : ¬ (x4 < 0 ∨ jm_ln H (jm_R H r0 24) ≤ Int32.toNatClampNeg x4)) (h3 : ¬ (jm_R H r0 24) = 1) (h4 : jm_tg H (jm_R H r0 24) = 100) (h5 : ¬ (x2 < 0 ∨ jm_ln H (jm_R H r0 24) ≤ Int32.toNatClampNeg x2)) : jm_w S 1 252 27 [.ref r0, .int x1, .int x2, .int x3, .int x4] [] H Q = if (jm_I H (jm_R H r0 24) (Int32.toNatClampNeg x4)) = (jm_I H (jm_R H r0 24) (Int32.toNatClampNeg x2)) then jm_w S 1 252 47 [.ref r0, .int x1, .int x2, .int x3, .int x4] [] H Q else jm_w S 1 252 43 [.ref r0, .int x1, .int x2, .int x3, .int x4] [] H Q := (js1 at252_27 rfl rfl rfl).trans ((jsgR (H := H) at252_28 rv252g_55 rfl h0 h1 rfl).trans ((js1 at252_31 rfl rfl rfl).trans ((jsial (H := H) at252_33 h3 h4 h2 rfl).trans ((js1 at252_34 rfl rfl rfl).trans ((jsgR (H := H) at252_35 rv252g_55 rfl h0 h1 rfl).trans ((js1 at252_38 rfl rfl rfl).trans ((jsial (H := H) at252_39 h3 h4 h5 rfl).trans (jsif (P := (jm_I H (jm_R H r0 24) (Int32.toNatClampNeg x4)) = (jm_I H (jm_R H r0 24) (Int32.toNatClampNeg x2))) at252_40 rfl rfl))))))))
theorem at252_43 : jm_at 252 43 = some (.iconst 1) := rfl
theorem at252_44 : jm_at 252 44 = some (.goto 4) := rfl
theorem u252_43 {S : Option (Nat × (Nat → Int32))} {H : jm_H} {Q : Option Value → jm_H → Prop} {r0 : Nat} {x1 x2 x3 x4 : Int32} : jm_w S 1 252 43 [.ref r0, .int x1, .int x2, .int x3, .int x4] [] H Q = jm_w S 1 252 48 [.ref r0, .int x1, .int x2, .int x3, .int x4] [.int (1 : Int32)] H Q := (jsci at252_43 rfl rfl).trans (js2 at252_44 rfl rfl)
theorem at252_47 : jm_at 252 47 = some (.iconst 0) := rfl
theorem u252_47 {S : Option (Nat × (Nat → Int32))} {H : jm_H} {Q : Option Value → jm_H → Prop} {r0 : Nat} {x1 x2 x3 x4 : Int32} : jm_w S 1 252 47 [.ref r0, .int x1, .int x2, .int x3, .int x4] [] H Q = jm_w S 1 252 48 [.ref r0, .int x1, .int x2, .int x3, .int x4] [.int (0 : Int32)] H Q := jsci at252_47 rfl rfl
theorem at252_48 : jm_at 252 48 = some (.istore_n 3) := rfl
theorem at252_49 : jm_at 252 49 = some (.iinc 4 1) := rfl
theorem at252_52 : jm_at 252 52 = some (.goto (-35)) := rfl
theorem u252_48 {S : Option (Nat × (Nat → Int32))} {H : jm_H} {Q : Option Value → jm_H → Prop} {r0 : Nat} {x1 x2 x3 x4 p0 : Int32} : jm_w S 1 252 48 [.ref r0, .int x1, .int x2, .int x3, .int x4] [.int p0] H Q = jm_w S 1 252 17 [.ref r0, .int x1, .int x2, .int p0, .int (x4 + 1)] [] H Q := (js1 at252_48 rfl rfl rfl).trans ((jsinc at252_49 rfl rfl rfl).trans (js2 at252_52 rfl rfl))
theorem at252_55 : jm_at 252 55 = some (.iload_n 3) := rfl
theorem at252_56 : jm_at 252 56 = some (.ifCond .eq 6) := rfl
theorem u252_55 {S : Option (Nat × (Nat → Int32))} {H : jm_H} {Q : Option Value → jm_H → Prop} {r0 : Nat} {x1 x2 x3 x4 : Int32} : jm_w S 1 252 55 [.ref r0, .int x1, .int x2, .int x3, .int x4] [] H Q = if x3 = 0 then jm_w S 1 252 62 [.ref r0, .int x1, .int x2, .int x3, .int x4] [] H Q else jm_w S 1 252 59 [.ref r0, .int x1, .int x2, .int x3, .int x4] [] H Q := (js1 at252_55 rfl rfl rfl).trans (jsif (P := x3 = 0) at252_56 rfl rfl)
theorem at252_59 : jm_at 252 59 = some (.iinc 1 1) := rfl
theorem u252_59 {S : Option (Nat × (Nat → Int32))} {H : jm_H} {Q : Option Value → jm_H → Prop} {r0 : Nat} {x1 x2 x3 x4 : Int32} : jm_w S 1 252 59 [.ref r0, .int x1, .int x2, .int x3, .int x4] [] H Q = jm_w S 1 252 62 [.ref r0, .int (x1 + 1), .int x2, .int x3, .int x4] [] H Q := jsinc at252_59 rfl rfl rfl
theorem at252_62 : jm_at 252 62 = some (.iinc 2 1) := rfl
theorem at252_65 : jm_at 252 65 = some (.goto (-61)) := rfl
theorem u252_62 {S : Option (Nat × (Nat → Int32))} {H : jm_H} {Q : Option Value → jm_H → Prop} {r0 : Nat} {x1 x2 x3 x4 : Int32} : jm_w S 1 252 62 [.ref r0, .int x1, .int x2, .int x3, .int x4] [] H Q = jm_w S 1 252 4 [.ref r0, .int x1, .int (x2 + 1), .int x3, .int x4] [] H Q := (jsinc at252_62 rfl rfl rfl).trans (js2 at252_65 rfl rfl)
theorem at252_68 : jm_at 252 68 = some (.iload_n 1) := rfl
theorem at252_69 : jm_at 252 69 = some (.ireturn) := rfl
theorem u252_68 {S : Option (Nat × (Nat → Int32))} {H : jm_H} {Q : Option Value → jm_H → Prop} {r0 : Nat} {x1 x2 : Int32} {w3 w4 : Value} : jm_w S 1 252 68 [.ref r0, .int x1, .int x2, w3, w4] [] H Q = Q (some (.int x1)) H := (js1 at252_68 rfl rfl rfl).trans (jsret_i at252_69 rfl)
theorem en252 {S : Option (Nat × (Nat → Int32))} {H : jm_H} {Q : Option Value → jm_H → Prop} {r0 : Nat} : jm_c S 252 [.ref r0] H Q = jm_w S 1 252 0 [.ref r0, .null, .null, .null, .null] [] H Q := rfl
theorem at253_0 : jm_at 253 0 = some (.aload_n 0) := rfl
theorem at253_1 : jm_at 253 1 = some (.getfield 40) := rfl
theorem rv253g_40 : jm_rv 253 (.getfield 40) = (0, 12, 17, 0) := rfl
theorem at253_4 : jm_at 253 4 = some (.iconst 2) := rfl
theorem at253_5 : jm_at 253 5 = some (.iaload) := rfl
theorem at253_6 : jm_at 253 6 = some (.ifCond .ne 7) := rfl
theorem u253_0 {S : Option (Nat × (Nat → Int32))} {H : jm_H} {Q : Option Value → jm_H → Prop} {r0 : Nat} (h0 : jm_tg H r0 = 13) (h1 : ¬ jm_R H r0 17 = 0) (h2 : ¬ ((2 : Int32) < 0 ∨ jm_ln H (jm_R H r0 17) ≤ Int32.toNatClampNeg (2 : Int32))) (h3 : ¬ (jm_R H r0 17) = 1) (h4 : jm_tg H (jm_R H r0 17) = 100) : jm_w S 2 253 0 [.ref r0, .null] [] H Q = if ¬ (jm_I H (jm_R H r0 17) (Int32.toNatClampNeg (2 : Int32))) = 0 then jm_w S 2 253 13 [.ref r0, .null] [] H Q else jm_w S 2 253 9 [.ref r0, .null] [] H Q := (js1 at253_0 rfl rfl rfl).trans ((jsgR (H := H) at253_1 rv253g_40 rfl h0 h1 rfl).trans ((jsci at253_4 rfl rfl).trans ((jsial (H := H) at253_5 h3 h4 h2 rfl).trans (jsif (P := ¬ (jm_I H (jm_R H r0 17) (Int32.toNatClampNeg (2 : Int32))) = 0) at253_6 rfl rfl))))
theorem at253_9 : jm_at 253 9 = some (.sipush (-1000)) := rfl
theorem at253_12 : jm_at 253 12 = some (.ireturn) := rfl
theorem u253_9 {S : Option (Nat × (Nat → Int32))} {H : jm_H} {Q : Option Value → jm_H → Prop} {r0 : Nat} : jm_w S 2 253 9 [.ref r0, .null] [] H Q = Q (some (.int (-1000 : Int32))) H := (jscs at253_9 rfl rfl).trans (jsret_i at253_12 rfl)
theorem at253_13 : jm_at 253 13 = some (.sipush 255) := rfl
theorem at253_16 : jm_at 253 16 = some (.istore_n 1) := rfl
theorem u253_13 {S : Option (Nat × (Nat → Int32))} {H : jm_H} {Q : Option Value → jm_H → Prop} {r0 : Nat} : jm_w S 2 253 13 [.ref r0, .null] [] H Q = jm_w S 2 253 17 [.ref r0, .int (255 : Int32)] [] H Q := (jscs at253_13 rfl rfl).trans (js1 at253_16 rfl rfl rfl)
theorem at253_17 : jm_at 253 17 = some (.aload_n 0) := rfl
theorem at253_18 : jm_at 253 18 = some (.getfield 40) := rfl
theorem at253_21 : jm_at 253 21 = some (.iconst 4) := rfl
theorem at253_22 : jm_at 253 22 = some (.iload_n 1) := rfl
theorem at253_23 : jm_at 253 23 = some (.bipush 16) := rfl
theorem at253_25 : jm_at 253 25 = some (.idiv) := rfl
theorem at253_26 : jm_at 253 26 = some (.iadd) := rfl
theorem at253_27 : jm_at 253 27 = some (.iaload) := rfl
theorem at253_28 : jm_at 253 28 = some (.iload_n 1) := rfl
theorem at253_29 : jm_at 253 29 = some (.bipush 16) := rfl
theorem at253_31 : jm_at 253 31 = some (.irem) := rfl
theorem at253_32 : jm_at 253 32 = some (.invokestatic 310) := rfl
theorem rv253i_310 : jm_rv 253 (.invokestatic 310) = (1, 195, 0, 0) := rfl
theorem u253_17 {S : Option (Nat × (Nat → Int32))} {H : jm_H} {Q : Option Value → jm_H → Prop} {r0 : Nat} {x1 : Int32} (h0 : jm_tg H r0 = 13) (h1 : ¬ jm_R H r0 17 = 0) (h2 : ¬ (((4 : Int32) + (x1 / (16 : Int32))) < 0 ∨ jm_ln H (jm_R H r0 17) ≤ Int32.toNatClampNeg ((4 : Int32) + (x1 / (16 : Int32))))) (h3 : ¬ (jm_R H r0 17) = 1) (h4 : jm_tg H (jm_R H r0 17) = 100) : jm_w S 2 253 17 [.ref r0, .int x1] [] H Q = jm_c S 195 [.int (jm_I H (jm_R H r0 17) (Int32.toNatClampNeg ((4 : Int32) + (x1 / (16 : Int32))))), .int (x1 - x1 / (16 : Int32) * (16 : Int32))] H (fun v G => jm_w S 2 253 35 [.ref r0, .int x1] (v.toList ++ []) G Q) := (js1 at253_17 rfl rfl rfl).trans ((jsgR (H := H) at253_18 rv253g_40 rfl h0 h1 rfl).trans ((jsci at253_21 rfl rfl).trans ((js1 at253_22 rfl rfl rfl).trans ((jscb at253_23 rfl rfl).trans ((jsidiv at253_25 (by decide) rfl).trans ((js0 at253_26 rfl rfl rfl).trans ((jsial (H := H) at253_27 h3 h4 h2 rfl).trans ((js1 at253_28 rfl rfl rfl).trans ((jscb at253_29 rfl rfl).trans ((jsirem at253_31 (by decide) rfl).trans (jscall (H := H) (as := [.int (jm_I H (jm_R H r0 17) (Int32.toNatClampNeg ((4 : Int32) + (x1 / (16 : Int32))))), .int (x1 - x1 / (16 : Int32) * (16 : Int32))]) (q := []) at253_32 rfl rv253i_310 (jscut rfl rfl rfl (Nat.le_of_ble_eq_true rfl)) rfl (Nat.le_of_ble_eq_true rfl) rfl rfl)))))))))))
theorem at253_35 : jm_at 253 35 = some (.ifCond .ne 9) := rfl
theorem u253_35 {S : Option (Nat × (Nat → Int32))} {H : jm_H} {Q : Option Value → jm_H → Prop} {r0 : Nat} {x1 p0 : Int32} : jm_w S 2 253 35 [.ref r0, .int x1] [.int p0] H Q = if ¬ p0 = 0 then jm_w S 2 253 44 [.ref r0, .int x1] [] H Q else jm_w S 2 253 38 [.ref r0, .int x1] [] H Q := jsif (P := ¬ p0 = 0) at253_35 rfl rfl
theorem at253_38 : jm_at 253 38 = some (.iinc 1 (-1)) := rfl
theorem at253_41 : jm_at 253 41 = some (.goto (-24)) := rfl
theorem u253_38 {S : Option (Nat × (Nat → Int32))} {H : jm_H} {Q : Option Value → jm_H → Prop} {r0 : Nat} {x1 : Int32} : jm_w S 2 253 38 [.ref r0, .int x1] [] H Q = jm_w S 2 253 17 [.ref r0, .int (x1 + (-1))] [] H Q := (jsinc at253_38 rfl rfl rfl).trans (js2 at253_41 rfl rfl)
theorem at253_44 : jm_at 253 44 = some (.iload_n 1) := rfl
theorem at253_45 : jm_at 253 45 = some (.bipush 112) := rfl
theorem at253_47 : jm_at 253 47 = some (.isub) := rfl
theorem at253_48 : jm_at 253 48 = some (.ireturn) := rfl
theorem u253_44 {S : Option (Nat × (Nat → Int32))} {H : jm_H} {Q : Option Value → jm_H → Prop} {r0 : Nat} {x1 : Int32} : jm_w S 2 253 44 [.ref r0, .int x1] [] H Q = Q (some (.int (x1 - (112 : Int32)))) H := (js1 at253_44 rfl rfl rfl).trans ((jscb at253_45 rfl rfl).trans ((js0 at253_47 rfl rfl rfl).trans (jsret_i at253_48 rfl)))
theorem en253 {S : Option (Nat × (Nat → Int32))} {H : jm_H} {Q : Option Value → jm_H → Prop} {r0 : Nat} : jm_c S 253 [.ref r0] H Q = jm_w S 2 253 0 [.ref r0, .null] [] H Q := rfl
theorem at254_0 : jm_at 254 0 = some (.aload_n 0) := rfl
theorem at254_1 : jm_at 254 1 = some (.getfield 40) := rfl
theorem rv254g_40 : jm_rv 254 (.getfield 40) = (0, 12, 17, 0) := rfl
theorem at254_4 : jm_at 254 4 = some (.iconst 2) := rfl
theorem at254_5 : jm_at 254 5 = some (.iaload) := rfl
theorem at254_6 : jm_at 254 6 = some (.ifCond .ne 5) := rfl
theorem u254_0 {S : Option (Nat × (Nat → Int32))} {H : jm_H} {Q : Option Value → jm_H → Prop} {r0 : Nat} (h0 : jm_tg H r0 = 13) (h1 : ¬ jm_R H r0 17 = 0) (h2 : ¬ ((2 : Int32) < 0 ∨ jm_ln H (jm_R H r0 17) ≤ Int32.toNatClampNeg (2 : Int32))) (h3 : ¬ (jm_R H r0 17) = 1) (h4 : jm_tg H (jm_R H r0 17) = 100) : jm_w S 1 254 0 [.ref r0, .null, .null, .null, .null, .null] [] H Q = if ¬ (jm_I H (jm_R H r0 17) (Int32.toNatClampNeg (2 : Int32))) = 0 then jm_w S 1 254 11 [.ref r0, .null, .null, .null, .null, .null] [] H Q else jm_w S 1 254 9 [.ref r0, .null, .null, .null, .null, .null] [] H Q := (js1 at254_0 rfl rfl rfl).trans ((jsgR (H := H) at254_1 rv254g_40 rfl h0 h1 rfl).trans ((jsci at254_4 rfl rfl).trans ((jsial (H := H) at254_5 h3 h4 h2 rfl).trans (jsif (P := ¬ (jm_I H (jm_R H r0 17) (Int32.toNatClampNeg (2 : Int32))) = 0) at254_6 rfl rfl))))
theorem at254_9 : jm_at 254 9 = some (.iconst 0) := rfl
theorem at254_10 : jm_at 254 10 = some (.ireturn) := rfl
theorem u254_9 {S : Option (Nat × (Nat → Int32))} {H : jm_H} {Q : Option Value → jm_H → Prop} {r0 : Nat} : jm_w S 1 254 9 [.ref r0, .null, .null, .null, .null, .null] [] H Q = Q (some (.int (0 : Int32))) H := (jsci at254_9 rfl rfl).trans (jsret_i at254_10 rfl)
theorem at254_11 : jm_at 254 11 = some (.lconst 0) := rfl
theorem at254_12 : jm_at 254 12 = some (.lstore_n 1) := rfl
theorem at254_13 : jm_at 254 13 = some (.bipush 15) := rfl
theorem at254_15 : jm_at 254 15 = some (.istore_n 3) := rfl
theorem u254_11 {S : Option (Nat × (Nat → Int32))} {H : jm_H} {Q : Option Value → jm_H → Prop} {r0 : Nat} : jm_w S 1 254 11 [.ref r0, .null, .null, .null, .null, .null] [] H Q = jm_w S 1 254 16 [.ref r0, .long (0 : Int64), .null, .int (15 : Int32), .null, .null] [] H Q := (jscl at254_11 rfl rfl).trans ((js1 at254_12 rfl rfl rfl).trans ((jscb at254_13 rfl rfl).trans (js1 at254_15 rfl rfl rfl)))
theorem at254_16 : jm_at 254 16 = some (.iload_n 3) := rfl
theorem at254_17 : jm_at 254 17 = some (.bipush 7) := rfl
theorem at254_19 : jm_at 254 19 = some (.if_icmp .lt 39) := rfl
theorem u254_16 {S : Option (Nat × (Nat → Int32))} {H : jm_H} {Q : Option Value → jm_H → Prop} {r0 : Nat} {y1 : Int64} {x3 : Int32} : jm_w S 1 254 16 [.ref r0, .long y1, .null, .int x3, .null, .null] [] H Q = if x3 < (7 : Int32) then jm_w S 1 254 58 [.ref r0, .long y1, .null, .int x3, .null, .null] [] H Q else jm_w S 1 254 22 [.ref r0, .long y1, .null, .int x3, .null, .null] [] H Q := (js1 at254_16 rfl rfl rfl).trans ((jscb at254_17 rfl rfl).trans (jsif (P := x3 < (7 : Int32)) at254_19 rfl rfl))
theorem at254_22 : jm_at 254 22 = some (.lload_n 1) := rfl
theorem at254_23 : jm_at 254 23 = some (.ldc2_w 408) := rfl
theorem rv254l_408 : jm_rv 254 (.ldc2_w 408) = (9, 0, 0, 2000000000) := rfl
theorem at254_26 : jm_at 254 26 = some (.lcmp) := rfl
theorem at254_27 : jm_at 254 27 = some (.ifCond .le 9) := rfl
theorem u254_22 {S : Option (Nat × (Nat → Int32))} {H : jm_H} {Q : Option Value → jm_H → Prop} {r0 : Nat} {y1 : Int64} {x3 : Int32} : jm_w S 1 254 22 [.ref r0, .long y1, .null, .int x3, .null, .null] [] H Q = if (lg_cmp y1 (2000000000 : Int64)) ≤ 0 then jm_w S 1 254 36 [.ref r0, .long y1, .null, .int x3, .null, .null] [] H Q else jm_w S 1 254 30 [.ref r0, .long y1, .null, .int x3, .null, .null] [] H Q := (js1 at254_22 rfl rfl rfl).trans ((jsk2 at254_23 rv254l_408 rfl rfl).trans ((js0 at254_26 rfl rfl rfl).trans (jsif (P := (lg_cmp y1 (2000000000 : Int64)) ≤ 0) at254_27 rfl rfl)))
theorem at254_30 : jm_at 254 30 = some (.ldc2_w 446) := rfl
theorem rv254l_446 : jm_rv 254 (.ldc2_w 446) = (9, 0, 0, 2000000001) := rfl
theorem at254_33 : jm_at 254 33 = some (.goto 18) := rfl
theorem u254_30 {S : Option (Nat × (Nat → Int32))} {H : jm_H} {Q : Option Value → jm_H → Prop} {r0 : Nat} {y1 : Int64} {x3 : Int32} : jm_w S 1 254 30 [.ref r0, .long y1, .null, .int x3, .null, .null] [] H Q = jm_w S 1 254 51 [.ref r0, .long y1, .null, .int x3, .null, .null] [.long (2000000001 : Int64)] H Q := (jsk2 at254_30 rv254l_446 rfl rfl).trans (js2 at254_33 rfl rfl)
theorem at254_36 : jm_at 254 36 = some (.ldc2_w 448) := rfl
theorem rv254l_448 : jm_rv 254 (.ldc2_w 448) = (9, 0, 0, 65536) := rfl
theorem at254_39 : jm_at 254 39 = some (.lload_n 1) := rfl
theorem at254_40 : jm_at 254 40 = some (.lmul) := rfl
theorem at254_41 : jm_at 254 41 = some (.aload_n 0) := rfl
theorem at254_42 : jm_at 254 42 = some (.getfield 40) := rfl
theorem at254_45 : jm_at 254 45 = some (.iconst 4) := rfl
theorem at254_46 : jm_at 254 46 = some (.iload_n 3) := rfl
theorem at254_47 : jm_at 254 47 = some (.iadd) := rfl
theorem at254_48 : jm_at 254 48 = some (.iaload) := rfl
theorem at254_49 : jm_at 254 49 = some (.i2l) := rfl
theorem at254_50 : jm_at 254 50 = some (.ladd) := rfl
theorem u254_36 {S : Option (Nat × (Nat → Int32))} {H : jm_H} {Q : Option Value → jm_H → Prop} {r0 : Nat} {y1 : Int64} {x3 : Int32} (h0 : jm_tg H r0 = 13) (h1 : ¬ jm_R H r0 17 = 0) (h2 : ¬ (((4 : Int32) + x3) < 0 ∨ jm_ln H (jm_R H r0 17) ≤ Int32.toNatClampNeg ((4 : Int32) + x3))) (h3 : ¬ (jm_R H r0 17) = 1) (h4 : jm_tg H (jm_R H r0 17) = 100) : jm_w S 1 254 36 [.ref r0, .long y1, .null, .int x3, .null, .null] [] H Q = jm_w S 1 254 51 [.ref r0, .long y1, .null, .int x3, .null, .null] [.long (((65536 : Int64) * y1) + (Int32.toInt64 (jm_I H (jm_R H r0 17) (Int32.toNatClampNeg ((4 : Int32) + x3)))))] H Q := (jsk2 at254_36 rv254l_448 rfl rfl).trans ((js1 at254_39 rfl rfl rfl).trans ((js0 at254_40 rfl rfl rfl).trans ((js1 at254_41 rfl rfl rfl).trans ((jsgR (H := H) at254_42 rv254g_40 rfl h0 h1 rfl).trans ((jsci at254_45 rfl rfl).trans ((js1 at254_46 rfl rfl rfl).trans ((js0 at254_47 rfl rfl rfl).trans ((jsial (H := H) at254_48 h3 h4 h2 rfl).trans ((js0 at254_49 rfl rfl rfl).trans (js0 at254_50 rfl rfl rfl))))))))))
theorem at254_51 : jm_at 254 51 = some (.lstore_n 1) := rfl
theorem at254_52 : jm_at 254 52 = some (.iinc 3 (-1)) := rfl
theorem at254_55 : jm_at 254 55 = some (.goto (-39)) := rfl
theorem u254_51 {S : Option (Nat × (Nat → Int32))} {H : jm_H} {Q : Option Value → jm_H → Prop} {r0 : Nat} {y1 q0 : Int64} {x3 : Int32} : jm_w S 1 254 51 [.ref r0, .long y1, .null, .int x3, .null, .null] [.long q0] H Q = jm_w S 1 254 16 [.ref r0, .long q0, .null, .int (x3 + (-1)), .null, .null] [] H Q := (js1 at254_51 rfl rfl rfl).trans ((jsinc at254_52 rfl rfl rfl).trans (js2 at254_55 rfl rfl))
theorem at254_58 : jm_at 254 58 = some (.aload_n 0) := rfl
theorem at254_59 : jm_at 254 59 = some (.getfield 40) := rfl
theorem at254_62 : jm_at 254 62 = some (.bipush 10) := rfl
theorem at254_64 : jm_at 254 64 = some (.iaload) := rfl
theorem at254_65 : jm_at 254 65 = some (.istore_n 3) := rfl
theorem at254_66 : jm_at 254 66 = some (.iload_n 3) := rfl
theorem at254_67 : jm_at 254 67 = some (.ldc_w 450) := rfl
theorem rv254l_450 : jm_rv 254 (.ldc_w 450) = (8, 0, 0, 32768) := rfl
theorem at254_70 : jm_at 254 70 = some (.if_icmp .ne 7) := rfl
theorem u254_58 {S : Option (Nat × (Nat → Int32))} {H : jm_H} {Q : Option Value → jm_H → Prop} {r0 : Nat} {y1 : Int64} {x3 : Int32} (h0 : jm_tg H r0 = 13) (h1 : ¬ jm_R H r0 17 = 0) (h2 : ¬ ((10 : Int32) < 0 ∨ jm_ln H (jm_R H r0 17) ≤ Int32.toNatClampNeg (10 : Int32))) (h3 : ¬ (jm_R H r0 17) = 1) (h4 : jm_tg H (jm_R H r0 17) = 100) : jm_w S 1 254 58 [.ref r0, .long y1, .null, .int x3, .null, .null] [] H Q = if ¬ (jm_I H (jm_R H r0 17) (Int32.toNatClampNeg (10 : Int32))) = (32768 : Int32) then jm_w S 1 254 77 [.ref r0, .long y1, .null, .int (jm_I H (jm_R H r0 17) (Int32.toNatClampNeg (10 : Int32))), .null, .null] [] H Q else jm_w S 1 254 73 [.ref r0, .long y1, .null, .int (jm_I H (jm_R H r0 17) (Int32.toNatClampNeg (10 : Int32))), .null, .null] [] H Q := (js1 at254_58 rfl rfl rfl).trans ((jsgR (H := H) at254_59 rv254g_40 rfl h0 h1 rfl).trans ((jscb at254_62 rfl rfl).trans ((jsial (H := H) at254_64 h3 h4 h2 rfl).trans ((js1 at254_65 rfl rfl rfl).trans ((js1 at254_66 rfl rfl rfl).trans ((jskw at254_67 rv254l_450 rfl rfl).trans (jsif (P := ¬ (jm_I H (jm_R H r0 17) (Int32.toNatClampNeg (10 : Int32))) = (32768 : Int32)) at254_70 rfl rfl)))))))
theorem at254_73 : jm_at 254 73 = some (.iconst 1) := rfl
theorem at254_74 : jm_at 254 74 = some (.goto 4) := rfl
theorem u254_73 {S : Option (Nat × (Nat → Int32))} {H : jm_H} {Q : Option Value → jm_H → Prop} {r0 : Nat} {y1 : Int64} {x3 : Int32} : jm_w S 1 254 73 [.ref r0, .long y1, .null, .int x3, .null, .null] [] H Q = jm_w S 1 254 78 [.ref r0, .long y1, .null, .int x3, .null, .null] [.int (1 : Int32)] H Q := (jsci at254_73 rfl rfl).trans (js2 at254_74 rfl rfl)
theorem at254_77 : jm_at 254 77 = some (.iconst 0) := rfl
theorem u254_77 {S : Option (Nat × (Nat → Int32))} {H : jm_H} {Q : Option Value → jm_H → Prop} {r0 : Nat} {y1 : Int64} {x3 : Int32} : jm_w S 1 254 77 [.ref r0, .long y1, .null, .int x3, .null, .null] [] H Q = jm_w S 1 254 78 [.ref r0, .long y1, .null, .int x3, .null, .null] [.int (0 : Int32)] H Q := jsci at254_77 rfl rfl
theorem at254_78 : jm_at 254 78 = some (.istore 4) := rfl
theorem at254_80 : jm_at 254 80 = some (.iconst 0) := rfl
theorem at254_81 : jm_at 254 81 = some (.istore 5) := rfl
theorem u254_78 {S : Option (Nat × (Nat → Int32))} {H : jm_H} {Q : Option Value → jm_H → Prop} {r0 : Nat} {y1 : Int64} {x3 p0 : Int32} : jm_w S 1 254 78 [.ref r0, .long y1, .null, .int x3, .null, .null] [.int p0] H Q = jm_w S 1 254 83 [.ref r0, .long y1, .null, .int x3, .int p0, .int (0 : Int32)] [] H Q := (js1 at254_78 rfl rfl rfl).trans ((jsci at254_80 rfl rfl).trans (js1 at254_81 rfl rfl rfl))
theorem at254_83 : jm_at 254 83 = some (.iload 5) := rfl
theorem at254_85 : jm_at 254 85 = some (.bipush 6) := rfl
theorem at254_87 : jm_at 254 87 = some (.if_icmp .ge 33) := rfl
theorem u254_83 {S : Option (Nat × (Nat → Int32))} {H : jm_H} {Q : Option Value → jm_H → Prop} {r0 : Nat} {y1 : Int64} {x3 x4 x5 : Int32} : jm_w S 1 254 83 [.ref r0, .long y1, .null, .int x3, .int x4, .int x5] [] H Q = if (6 : Int32) ≤ x5 then jm_w S 1 254 120 [.ref r0, .long y1, .null, .int x3, .int x4, .int x5] [] H Q else jm_w S 1 254 90 [.ref r0, .long y1, .null, .int x3, .int x4, .int x5] [] H Q := (js1 at254_83 rfl rfl rfl).trans ((jscb at254_85 rfl rfl).trans (jsif (P := (6 : Int32) ≤ x5) at254_87 rfl rfl))
theorem at254_90 : jm_at 254 90 = some (.iload 4) := rfl
theorem at254_92 : jm_at 254 92 = some (.ifCond .eq 19) := rfl
theorem u254_90 {S : Option (Nat × (Nat → Int32))} {H : jm_H} {Q : Option Value → jm_H → Prop} {r0 : Nat} {y1 : Int64} {x3 x4 x5 : Int32} : jm_w S 1 254 90 [.ref r0, .long y1, .null, .int x3, .int x4, .int x5] [] H Q = if x4 = 0 then jm_w S 1 254 111 [.ref r0, .long y1, .null, .int x3, .int x4, .int x5] [] H Q else jm_w S 1 254 95 [.ref r0, .long y1, .null, .int x3, .int x4, .int x5] [] H Q := (js1 at254_90 rfl rfl rfl).trans (jsif (P := x4 = 0) at254_92 rfl rfl)
theorem at254_95 : jm_at 254 95 = some (.aload_n 0) := rfl
theorem at254_96 : jm_at 254 96 = some (.getfield 40) := rfl
theorem at254_99 : jm_at 254 99 = some (.iconst 4) := rfl
theorem at254_100 : jm_at 254 100 = some (.iload 5) := rfl
theorem at254_102 : jm_at 254 102 = some (.iadd) := rfl
theorem at254_103 : jm_at 254 103 = some (.iaload) := rfl
theorem at254_104 : jm_at 254 104 = some (.ifCond .ne 7) := rfl
theorem u254_95 {S : Option (Nat × (Nat → Int32))} {H : jm_H} {Q : Option Value → jm_H → Prop} {r0 : Nat} {y1 : Int64} {x3 x4 x5 : Int32} (h0 : jm_tg H r0 = 13) (h1 : ¬ jm_R H r0 17 = 0) (h2 : ¬ (((4 : Int32) + x5) < 0 ∨ jm_ln H (jm_R H r0 17) ≤ Int32.toNatClampNeg ((4 : Int32) + x5))) (h3 : ¬ (jm_R H r0 17) = 1) (h4 : jm_tg H (jm_R H r0 17) = 100) : jm_w S 1 254 95 [.ref r0, .long y1, .null, .int x3, .int x4, .int x5] [] H Q = if ¬ (jm_I H (jm_R H r0 17) (Int32.toNatClampNeg ((4 : Int32) + x5))) = 0 then jm_w S 1 254 111 [.ref r0, .long y1, .null, .int x3, .int x4, .int x5] [] H Q else jm_w S 1 254 107 [.ref r0, .long y1, .null, .int x3, .int x4, .int x5] [] H Q := (js1 at254_95 rfl rfl rfl).trans ((jsgR (H := H) at254_96 rv254g_40 rfl h0 h1 rfl).trans ((jsci at254_99 rfl rfl).trans ((js1 at254_100 rfl rfl rfl).trans ((js0 at254_102 rfl rfl rfl).trans ((jsial (H := H) at254_103 h3 h4 h2 rfl).trans (jsif (P := ¬ (jm_I H (jm_R H r0 17) (Int32.toNatClampNeg ((4 : Int32) + x5))) = 0) at254_104 rfl rfl))))))
theorem at254_107 : jm_at 254 107 = some (.iconst 1) := rfl
theorem at254_108 : jm_at 254 108 = some (.goto 4) := rfl
theorem u254_107 {S : Option (Nat × (Nat → Int32))} {H : jm_H} {Q : Option Value → jm_H → Prop} {r0 : Nat} {y1 : Int64} {x3 x4 x5 : Int32} : jm_w S 1 254 107 [.ref r0, .long y1, .null, .int x3, .int x4, .int x5] [] H Q = jm_w S 1 254 112 [.ref r0, .long y1, .null, .int x3, .int x4, .int x5] [.int (1 : Int32)] H Q := (jsci at254_107 rfl rfl).trans (js2 at254_108 rfl rfl)
theorem at254_111 : jm_at 254 111 = some (.iconst 0) := rfl
theorem u254_111 {S : Option (Nat × (Nat → Int32))} {H : jm_H} {Q : Option Value → jm_H → Prop} {r0 : Nat} {y1 : Int64} {x3 x4 x5 : Int32} : jm_w S 1 254 111 [.ref r0, .long y1, .null, .int x3, .int x4, .int x5] [] H Q = jm_w S 1 254 112 [.ref r0, .long y1, .null, .int x3, .int x4, .int x5] [.int (0 : Int32)] H Q := jsci at254_111 rfl rfl
theorem at254_112 : jm_at 254 112 = some (.istore 4) := rfl
theorem at254_114 : jm_at 254 114 = some (.iinc 5 1) := rfl
theorem at254_117 : jm_at 254 117 = some (.goto (-34)) := rfl
theorem u254_112 {S : Option (Nat × (Nat → Int32))} {H : jm_H} {Q : Option Value → jm_H → Prop} {r0 : Nat} {y1 : Int64} {x3 x4 x5 p0 : Int32} : jm_w S 1 254 112 [.ref r0, .long y1, .null, .int x3, .int x4, .int x5] [.int p0] H Q = jm_w S 1 254 83 [.ref r0, .long y1, .null, .int x3, .int p0, .int (x5 + 1)] [] H Q := (js1 at254_112 rfl rfl rfl).trans ((jsinc at254_114 rfl rfl rfl).trans (js2 at254_117 rfl rfl))
theorem at254_120 : jm_at 254 120 = some (.iload_n 3) := rfl
theorem at254_121 : jm_at 254 121 = some (.ldc_w 450) := rfl
theorem at254_124 : jm_at 254 124 = some (.if_icmp .lt 22) := rfl
theorem u254_120 {S : Option (Nat × (Nat → Int32))} {H : jm_H} {Q : Option Value → jm_H → Prop} {r0 : Nat} {y1 : Int64} {x3 x4 x5 : Int32} : jm_w S 1 254 120 [.ref r0, .long y1, .null, .int x3, .int x4, .int x5] [] H Q = if x3 < (32768 : Int32) then jm_w S 1 254 146 [.ref r0, .long y1, .null, .int x3, .int x4, .int x5] [] H Q else jm_w S 1 254 127 [.ref r0, .long y1, .null, .int x3, .int x4, .int x5] [] H Q := (js1 at254_120 rfl rfl rfl).trans ((jskw at254_121 rv254l_450 rfl rfl).trans (jsif (P := x3 < (32768 : Int32)) at254_124 rfl rfl))
theorem at254_127 : jm_at 254 127 = some (.iload 4) := rfl
theorem at254_129 : jm_at 254 129 = some (.ifCond .eq 13) := rfl
theorem u254_127 {S : Option (Nat × (Nat → Int32))} {H : jm_H} {Q : Option Value → jm_H → Prop} {r0 : Nat} {y1 : Int64} {x3 x4 x5 : Int32} : jm_w S 1 254 127 [.ref r0, .long y1, .null, .int x3, .int x4, .int x5] [] H Q = if x4 = 0 then jm_w S 1 254 142 [.ref r0, .long y1, .null, .int x3, .int x4, .int x5] [] H Q else jm_w S 1 254 132 [.ref r0, .long y1, .null, .int x3, .int x4, .int x5] [] H Q := (js1 at254_127 rfl rfl rfl).trans (jsif (P := x4 = 0) at254_129 rfl rfl)
theorem at254_132 : jm_at 254 132 = some (.lload_n 1) := rfl
theorem at254_133 : jm_at 254 133 = some (.ldc2_w 406) := rfl
theorem rv254l_406 : jm_rv 254 (.ldc2_w 406) = (9, 0, 0, 2) := rfl
theorem at254_136 : jm_at 254 136 = some (.lrem) := rfl
theorem at254_137 : jm_at 254 137 = some (.lconst 1) := rfl
theorem at254_138 : jm_at 254 138 = some (.lcmp) := rfl
theorem at254_139 : jm_at 254 139 = some (.ifCond .ne 7) := rfl
theorem u254_132 {S : Option (Nat × (Nat → Int32))} {H : jm_H} {Q : Option Value → jm_H → Prop} {r0 : Nat} {y1 : Int64} {x3 x4 x5 : Int32} : jm_w S 1 254 132 [.ref r0, .long y1, .null, .int x3, .int x4, .int x5] [] H Q = if ¬ (lg_cmp (y1 - y1 / (2 : Int64) * (2 : Int64)) (1 : Int64)) = 0 then jm_w S 1 254 146 [.ref r0, .long y1, .null, .int x3, .int x4, .int x5] [] H Q else jm_w S 1 254 142 [.ref r0, .long y1, .null, .int x3, .int x4, .int x5] [] H Q := (js1 at254_132 rfl rfl rfl).trans ((jsk2 at254_133 rv254l_406 rfl rfl).trans ((jslrem at254_136 (by decide) rfl).trans ((jscl at254_137 rfl rfl).trans ((js0 at254_138 rfl rfl rfl).trans (jsif (P := ¬ (lg_cmp (y1 - y1 / (2 : Int64) * (2 : Int64)) (1 : Int64)) = 0) at254_139 rfl rfl)))))
theorem at254_142 : jm_at 254 142 = some (.lload_n 1) := rfl
theorem at254_143 : jm_at 254 143 = some (.lconst 1) := rfl
theorem at254_144 : jm_at 254 144 = some (.ladd) := rfl
theorem at254_145 : jm_at 254 145 = some (.lstore_n 1) := rfl
theorem u254_142 {S : Option (Nat × (Nat → Int32))} {H : jm_H} {Q : Option Value → jm_H → Prop} {r0 : Nat} {y1 : Int64} {x3 x4 x5 : Int32} : jm_w S 1 254 142 [.ref r0, .long y1, .null, .int x3, .int x4, .int x5] [] H Q = jm_w S 1 254 146 [.ref r0, .long (y1 + (1 : Int64)), .null, .int x3, .int x4, .int x5] [] H Q := (js1 at254_142 rfl rfl rfl).trans ((jscl at254_143 rfl rfl).trans ((js0 at254_144 rfl rfl rfl).trans (js1 at254_145 rfl rfl rfl)))
theorem at254_146 : jm_at 254 146 = some (.aload_n 0) := rfl
theorem at254_147 : jm_at 254 147 = some (.getfield 40) := rfl
theorem at254_150 : jm_at 254 150 = some (.iconst 2) := rfl
theorem at254_151 : jm_at 254 151 = some (.iaload) := rfl
theorem at254_152 : jm_at 254 152 = some (.lload_n 1) := rfl
theorem at254_153 : jm_at 254 153 = some (.ldc2_w 408) := rfl
theorem at254_156 : jm_at 254 156 = some (.lcmp) := rfl
theorem at254_157 : jm_at 254 157 = some (.ifCond .le 9) := rfl
theorem u254_146 {S : Option (Nat × (Nat → Int32))} {H : jm_H} {Q : Option Value → jm_H → Prop} {r0 : Nat} {y1 : Int64} {x3 x4 x5 : Int32} (h0 : jm_tg H r0 = 13) (h1 : ¬ jm_R H r0 17 = 0) (h2 : ¬ ((2 : Int32) < 0 ∨ jm_ln H (jm_R H r0 17) ≤ Int32.toNatClampNeg (2 : Int32))) (h3 : ¬ (jm_R H r0 17) = 1) (h4 : jm_tg H (jm_R H r0 17) = 100) : jm_w S 1 254 146 [.ref r0, .long y1, .null, .int x3, .int x4, .int x5] [] H Q = if (lg_cmp y1 (2000000000 : Int64)) ≤ 0 then jm_w S 1 254 166 [.ref r0, .long y1, .null, .int x3, .int x4, .int x5] [.int (jm_I H (jm_R H r0 17) (Int32.toNatClampNeg (2 : Int32)))] H Q else jm_w S 1 254 160 [.ref r0, .long y1, .null, .int x3, .int x4, .int x5] [.int (jm_I H (jm_R H r0 17) (Int32.toNatClampNeg (2 : Int32)))] H Q := (js1 at254_146 rfl rfl rfl).trans ((jsgR (H := H) at254_147 rv254g_40 rfl h0 h1 rfl).trans ((jsci at254_150 rfl rfl).trans ((jsial (H := H) at254_151 h3 h4 h2 rfl).trans ((js1 at254_152 rfl rfl rfl).trans ((jsk2 at254_153 rv254l_408 rfl rfl).trans ((js0 at254_156 rfl rfl rfl).trans (jsif (P := (lg_cmp y1 (2000000000 : Int64)) ≤ 0) at254_157 rfl rfl)))))))
theorem at254_160 : jm_at 254 160 = some (.ldc2_w 408) := rfl
theorem at254_163 : jm_at 254 163 = some (.goto 4) := rfl
theorem u254_160 {S : Option (Nat × (Nat → Int32))} {H : jm_H} {Q : Option Value → jm_H → Prop} {r0 : Nat} {y1 : Int64} {x3 x4 x5 p0 : Int32} : jm_w S 1 254 160 [.ref r0, .long y1, .null, .int x3, .int x4, .int x5] [.int p0] H Q = jm_w S 1 254 167 [.ref r0, .long y1, .null, .int x3, .int x4, .int x5] [.long (2000000000 : Int64), .int p0] H Q := (jsk2 at254_160 rv254l_408 rfl rfl).trans (js2 at254_163 rfl rfl)
theorem at254_166 : jm_at 254 166 = some (.lload_n 1) := rfl
theorem u254_166 {S : Option (Nat × (Nat → Int32))} {H : jm_H} {Q : Option Value → jm_H → Prop} {r0 : Nat} {y1 : Int64} {x3 x4 x5 p0 : Int32} : jm_w S 1 254 166 [.ref r0, .long y1, .null, .int x3, .int x4, .int x5] [.int p0] H Q = jm_w S 1 254 167 [.ref r0, .long y1, .null, .int x3, .int x4, .int x5] [.long y1, .int p0] H Q := js1 at254_166 rfl rfl rfl
theorem at254_167 : jm_at 254 167 = some (.l2i) := rfl
theorem at254_168 : jm_at 254 168 = some (.imul) := rfl
theorem at254_169 : jm_at 254 169 = some (.ireturn) := rfl
theorem u254_167 {S : Option (Nat × (Nat → Int32))} {H : jm_H} {Q : Option Value → jm_H → Prop} {r0 : Nat} {y1 q1 : Int64} {x3 x4 x5 p0 : Int32} : jm_w S 1 254 167 [.ref r0, .long y1, .null, .int x3, .int x4, .int x5] [.long q1, .int p0] H Q = Q (some (.int (p0 * (Int64.toInt32 q1)))) H := (js0 at254_167 rfl rfl rfl).trans ((js0 at254_168 rfl rfl rfl).trans (jsret_i at254_169 rfl))
theorem en254 {S : Option (Nat × (Nat → Int32))} {H : jm_H} {Q : Option Value → jm_H → Prop} {r0 : Nat} : jm_c S 254 [.ref r0] H Q = jm_w S 1 254 0 [.ref r0, .null, .null, .null, .null, .null] [] H Q := rfl
