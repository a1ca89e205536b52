theorem at45_0 : jm_at 45 0 = some (.aload_n 0) := by decide +kernel
theorem at45_1 : jm_at 45 1 = some (.iload_n 1) := by decide +kernel
theorem at45_2 : jm_at 45 2 = some (.invokestatic 37) := by decide +kernel
theorem rv45i_37 : jm_rv 45 (.invokestatic 37) = (1, 46, 0, 0) := by decide +kernel
theorem u45_0 {S : Option (Nat × (Nat → Int32))} {H : jm_H} {Q : Option Value → jm_H → Prop} {r0 : Nat} {x1 : Int32} : jm_w S 2 45 0 [.ref r0, .int x1] [] H Q = jm_c S 46 [.int x1] H (fun v G => jm_w S 2 45 5 [.ref r0, .int x1] (v.toList ++ [.ref r0]) G Q) := (js1 at45_0 rfl rfl rfl).trans ((js1 at45_1 rfl rfl rfl).trans (jscall (H := H) (as := [.int x1]) (q := [.ref r0]) at45_2 rfl rv45i_37 (jscut rfl rfl rfl (Nat.le_of_ble_eq_true rfl)) rfl (Nat.le_of_ble_eq_true rfl) rfl rfl))
theorem at45_5 : jm_at 45 5 = some (.iload_n 1) := by decide +kernel
theorem at45_6 : jm_at 45 6 = some (.i2l) := by decide +kernel
theorem at45_7 : jm_at 45 7 = some (.invokestatic 43) := by decide +kernel
theorem rv45i_43 : jm_rv 45 (.invokestatic 43) = (1, 47, 0, 0) := by decide +kernel
theorem u45_5 {S : Option (Nat × (Nat → Int32))} {H : jm_H} {Q : Option Value → jm_H → Prop} {r0 o0 : Nat} {x1 p1 : Int32} : jm_w S 2 45 5 [.ref r0, .int x1] [.int p1, .ref o0] H Q = jm_c S 47 [.long (Int32.toInt64 x1)] H (fun v G => jm_w S 2 45 10 [.ref r0, .int x1] (v.toList ++ [.int p1, .ref o0]) G Q) := (js1 at45_5 rfl rfl rfl).trans ((js0 at45_6 rfl rfl rfl).trans (jscall (H := H) (as := [.long (Int32.toInt64 x1)]) (q := [.int p1, .ref o0]) at45_7 rfl rv45i_43 (jscut rfl rfl rfl (Nat.le_of_ble_eq_true rfl)) rfl (Nat.le_of_ble_eq_true rfl) rfl rfl))
theorem at45_10 : jm_at 45 10 = some (.iconst 0) := by decide +kernel
theorem at45_11 : jm_at 45 11 = some (.invokevirtual 18) := by decide +kernel
theorem rv45i_18 : jm_rv 45 (.invokevirtual 18) = (2, 48, 0, 0) := by decide +kernel
theorem u45_10 {S : Option (Nat × (Nat → Int32))} {H : jm_H} {Q : Option Value → jm_H → Prop} {r0 o0 : Nat} {x1 p1 : Int32} {q2 : Int64} (h0 : jm_tg H o0 = 3) : jm_w S 2 45 10 [.ref r0, .int x1] [.long q2, .int p1, .ref o0] H Q = jm_c S 48 [.ref o0, .int p1, .long q2, .int (0 : Int32)] H (fun v G => jm_w S 2 45 14 [.ref r0, .int x1] (v.toList ++ []) G Q) := (jsci at45_10 rfl rfl).trans (jscall (H := H) (as := [.ref o0, .int p1, .long q2, .int (0 : Int32)]) (q := []) at45_11 rfl rv45i_18 (jscutV rfl rfl rfl (Nat.le_of_ble_eq_true rfl) rfl h0) rfl (Nat.le_of_ble_eq_true rfl) rfl rfl)
theorem at45_14 : jm_at 45 14 = some (.return_) := by decide +kernel
theorem u45_14 {S : Option (Nat × (Nat → Int32))} {H : jm_H} {Q : Option Value → jm_H → Prop} {r0 : Nat} {x1 : Int32} : jm_w S 2 45 14 [.ref r0, .int x1] [] H Q = Q none H := jsret_v at45_14 rfl
theorem en45 {S : Option (Nat × (Nat → Int32))} {H : jm_H} {Q : Option Value → jm_H → Prop} {r0 : Nat} {x1 : Int32} : jm_c S 45 [.ref r0, .int x1] H Q = jm_w S 2 45 0 [.ref r0, .int x1] [] H Q := rfl
theorem at48_0 : jm_at 48 0 = some (.aload_n 0) := by decide +kernel
theorem at48_1 : jm_at 48 1 = some (.iconst 0) := by decide +kernel
theorem at48_2 : jm_at 48 2 = some (.putfield 22) := by decide +kernel
theorem rv48p_22 : jm_rv 48 (.putfield 22) = (0, 2, 1, 0) := by decide +kernel
theorem at48_5 : jm_at 48 5 = some (.aload_n 0) := by decide +kernel
theorem at48_6 : jm_at 48 6 = some (.lload_n 2) := by decide +kernel
theorem at48_7 : jm_at 48 7 = some (.lconst 0) := by decide +kernel
theorem at48_8 : jm_at 48 8 = some (.lcmp) := by decide +kernel
theorem at48_9 : jm_at 48 9 = some (.ifCond .ne 7) := by decide +kernel
theorem u48_0 {S : Option (Nat × (Nat → Int32))} {H : jm_H} {Q : Option Value → jm_H → Prop} {r0 : Nat} {x1 x4 : Int32} {y2 : Int64} (h0 : jm_tg H r0 = 3) : jm_w S 1 48 0 [.ref r0, .int x1, .long y2, .null, .int x4] [] H Q = if ¬ (lg_cmp y2 (0 : Int64)) = 0 then jm_w S 1 48 16 [.ref r0, .int x1, .long y2, .null, .int x4] [.ref r0] (jm_pI H r0 1 (0 : Int32)) Q else jm_w S 1 48 12 [.ref r0, .int x1, .long y2, .null, .int x4] [.ref r0] (jm_pI H r0 1 (0 : Int32)) Q := (js1 at48_0 rfl rfl rfl).trans ((jsci at48_1 rfl rfl).trans ((jspZ (H := H) at48_2 rv48p_22 rfl h0 (by decide) rfl).trans ((js1 at48_5 rfl rfl rfl).trans ((js1 at48_6 rfl rfl rfl).trans ((jscl at48_7 rfl rfl).trans ((js0 at48_8 rfl rfl rfl).trans (jsif (P := ¬ (lg_cmp y2 (0 : Int64)) = 0) at48_9 rfl rfl)))))))
theorem at48_12 : jm_at 48 12 = some (.iconst 0) := by decide +kernel
theorem at48_13 : jm_at 48 13 = some (.goto 4) := by decide +kernel
theorem u48_12 {S : Option (Nat × (Nat → Int32))} {H : jm_H} {Q : Option Value → jm_H → Prop} {r0 o0 : Nat} {x1 x4 : Int32} {y2 : Int64} : jm_w S 1 48 12 [.ref r0, .int x1, .long y2, .null, .int x4] [.ref o0] H Q = jm_w S 1 48 17 [.ref r0, .int x1, .long y2, .null, .int x4] [.int (0 : Int32), .ref o0] H Q := (jsci at48_12 rfl rfl).trans (js2 at48_13 rfl rfl)
theorem at48_16 : jm_at 48 16 = some (.iload_n 1) := by decide +kernel
theorem u48_16 {S : Option (Nat × (Nat → Int32))} {H : jm_H} {Q : Option Value → jm_H → Prop} {r0 o0 : Nat} {x1 x4 : Int32} {y2 : Int64} : jm_w S 1 48 16 [.ref r0, .int x1, .long y2, .null, .int x4] [.ref o0] H Q = jm_w S 1 48 17 [.ref r0, .int x1, .long y2, .null, .int x4] [.int x1, .ref o0] H Q := js1 at48_16 rfl rfl rfl
theorem at48_17 : jm_at 48 17 = some (.putfield 26) := by decide +kernel
theorem rv48p_26 : jm_rv 48 (.putfield 26) = (0, 2, 2, 0) := by decide +kernel
theorem at48_20 : jm_at 48 20 = some (.aload_n 0) := by decide +kernel
theorem at48_21 : jm_at 48 21 = some (.lload_n 2) := by decide +kernel
theorem at48_22 : jm_at 48 22 = some (.putfield 30) := by decide +kernel
theorem rv48p_30 : jm_rv 48 (.putfield 30) = (0, 2, 3, 0) := by decide +kernel
theorem at48_25 : jm_at 48 25 = some (.aload_n 0) := by decide +kernel
theorem at48_26 : jm_at 48 26 = some (.iload 4) := by decide +kernel
theorem at48_28 : jm_at 48 28 = some (.putfield 34) := by decide +kernel
theorem rv48p_34 : jm_rv 48 (.putfield 34) = (0, 2, 4, 0) := by decide +kernel
theorem at48_31 : jm_at 48 31 = some (.return_) := by decide +kernel
theorem u48_17 {S : Option (Nat × (Nat → Int32))} {H : jm_H} {Q : Option Value → jm_H → Prop} {r0 o0 : Nat} {x1 x4 p1 : Int32} {y2 : Int64} (h0 : jm_tg H o0 = 3) (h1 : jm_tg H r0 = 3) : jm_w S 1 48 17 [.ref r0, .int x1, .long y2, .null, .int x4] [.int p1, .ref o0] H Q = Q none (jm_pI (jm_pL (jm_pI H o0 2 p1) r0 3 y2) r0 4 x4) := (jspI (H := H) at48_17 rv48p_26 rfl h0 rfl).trans ((js1 at48_20 rfl rfl rfl).trans ((js1 at48_21 rfl rfl rfl).trans ((jspL (H := (jm_pI H o0 2 p1)) at48_22 rv48p_30 rfl h1 rfl).trans ((js1 at48_25 rfl rfl rfl).trans ((js1 at48_26 rfl rfl rfl).trans ((jspI (H := (jm_pL (jm_pI H o0 2 p1) r0 3 y2)) at48_28 rv48p_34 rfl h1 rfl).trans (jsret_v at48_31 rfl)))))))
theorem en48 {S : Option (Nat × (Nat → Int32))} {H : jm_H} {Q : Option Value → jm_H → Prop} {r0 : Nat} {x1 x4 : Int32} {y2 : Int64} : jm_c S 48 [.ref r0, .int x1, .long y2, .int x4] H Q = jm_w S 1 48 0 [.ref r0, .int x1, .long y2, .null, .int x4] [] H Q := rfl
theorem at51_0 : jm_at 51 0 = some (.aload_n 0) := by decide +kernel
theorem at51_1 : jm_at 51 1 = some (.aload_n 1) := by decide +kernel
theorem at51_2 : jm_at 51 2 = some (.getfield 26) := by decide +kernel
theorem rv51g_26 : jm_rv 51 (.getfield 26) = (0, 2, 2, 0) := by decide +kernel
theorem at51_5 : jm_at 51 5 = some (.aload_n 1) := by decide +kernel
theorem at51_6 : jm_at 51 6 = some (.getfield 30) := by decide +kernel
theorem rv51g_30 : jm_rv 51 (.getfield 30) = (0, 2, 3, 0) := by decide +kernel
theorem at51_9 : jm_at 51 9 = some (.aload_n 1) := by decide +kernel
theorem at51_10 : jm_at 51 10 = some (.getfield 34) := by decide +kernel
theorem rv51g_34 : jm_rv 51 (.getfield 34) = (0, 2, 4, 0) := by decide +kernel
theorem at51_13 : jm_at 51 13 = some (.invokevirtual 18) := by decide +kernel
theorem rv51i_18 : jm_rv 51 (.invokevirtual 18) = (2, 48, 0, 0) := by decide +kernel
theorem u51_0 {S : Option (Nat × (Nat → Int32))} {H : jm_H} {Q : Option Value → jm_H → Prop} {r0 r1 : Nat} (h0 : jm_tg H r1 = 3) (h1 : jm_tg H r0 = 3) : jm_w S 2 51 0 [.ref r0, .ref r1] [] H Q = jm_c S 48 [.ref r0, .int (jm_I H r1 2), .long (jm_L H r1 3), .int (jm_I H r1 4)] H (fun v G => jm_w S 2 51 16 [.ref r0, .ref r1] (v.toList ++ []) G Q) := (js1 at51_0 rfl rfl rfl).trans ((js1 at51_1 rfl rfl rfl).trans ((jsgI (H := H) at51_2 rv51g_26 (Or.inl rfl) h0 rfl).trans ((js1 at51_5 rfl rfl rfl).trans ((jsgL (H := H) at51_6 rv51g_30 rfl h0 rfl).trans ((js1 at51_9 rfl rfl rfl).trans ((jsgI (H := H) at51_10 rv51g_34 (Or.inl rfl) h0 rfl).trans (jscall (H := H) (as := [.ref r0, .int (jm_I H r1 2), .long (jm_L H r1 3), .int (jm_I H r1 4)]) (q := []) at51_13 rfl rv51i_18 (jscutV rfl rfl rfl (Nat.le_of_ble_eq_true rfl) rfl h1) rfl (Nat.le_of_ble_eq_true rfl) rfl rfl)))))))
theorem at51_16 : jm_at 51 16 = some (.aload_n 0) := by decide +kernel
theorem at51_17 : jm_at 51 17 = some (.aload_n 1) := by decide +kernel
theorem at51_18 : jm_at 51 18 = some (.getfield 22) := by decide +kernel
theorem rv51g_22 : jm_rv 51 (.getfield 22) = (0, 2, 1, 0) := by decide +kernel
theorem at51_21 : jm_at 51 21 = some (.putfield 22) := by decide +kernel
theorem rv51p_22 : jm_rv 51 (.putfield 22) = (0, 2, 1, 0) := by decide +kernel
theorem at51_24 : jm_at 51 24 = some (.return_) := by decide +kernel
theorem u51_16 {S : Option (Nat × (Nat → Int32))} {H : jm_H} {Q : Option Value → jm_H → Prop} {r0 r1 : Nat} (h0 : jm_tg H r1 = 3) (h1 : jm_tg H r0 = 3) (h2 : (jm_I H r1 1) = 0 ∨ (jm_I H r1 1) = 1) : jm_w S 2 51 16 [.ref r0, .ref r1] [] H Q = Q none (jm_pI H r0 1 (jm_I H r1 1)) := (js1 at51_16 rfl rfl rfl).trans ((js1 at51_17 rfl rfl rfl).trans ((jsgI (H := H) at51_18 rv51g_22 (Or.inr rfl) h0 rfl).trans ((jspZ (H := H) at51_21 rv51p_22 rfl h1 h2 rfl).trans (jsret_v at51_24 rfl))))
theorem en51 {S : Option (Nat × (Nat → Int32))} {H : jm_H} {Q : Option Value → jm_H → Prop} {r0 r1 : Nat} : jm_c S 51 [.ref r0, .ref r1] H Q = jm_w S 2 51 0 [.ref r0, .ref r1] [] H Q := rfl
theorem at52_0 : jm_at 52 0 = some (.aload_n 0) := by decide +kernel
theorem at52_1 : jm_at 52 1 = some (.getfield 30) := by decide +kernel
theorem rv52g_30 : jm_rv 52 (.getfield 30) = (0, 2, 3, 0) := by decide +kernel
theorem at52_4 : jm_at 52 4 = some (.invokestatic 88) := by decide +kernel
theorem rv52i_88 : jm_rv 52 (.invokestatic 88) = (1, 53, 0, 0) := by decide +kernel
theorem u52_0 {S : Option (Nat × (Nat → Int32))} {H : jm_H} {Q : Option Value → jm_H → Prop} {r0 : Nat} (h0 : jm_tg H r0 = 3) : jm_w S 4 52 0 [.ref r0, .null] [] H Q = jm_c S 53 [.long (jm_L H r0 3)] H (fun v G => jm_w S 4 52 7 [.ref r0, .null] (v.toList ++ []) G Q) := (js1 at52_0 rfl rfl rfl).trans ((jsgL (H := H) at52_1 rv52g_30 rfl h0 rfl).trans (jscall (H := H) (as := [.long (jm_L H r0 3)]) (q := []) at52_4 rfl rv52i_88 (jscut rfl rfl rfl (Nat.le_of_ble_eq_true rfl)) rfl (Nat.le_of_ble_eq_true rfl) rfl rfl))
theorem at52_7 : jm_at 52 7 = some (.bipush 45) := by decide +kernel
theorem at52_9 : jm_at 52 9 = some (.isub) := by decide +kernel
theorem at52_10 : jm_at 52 10 = some (.istore_n 1) := by decide +kernel
theorem at52_11 : jm_at 52 11 = some (.iload_n 1) := by decide +kernel
theorem at52_12 : jm_at 52 12 = some (.ifCond .le 26) := by decide +kernel
theorem u52_7 {S : Option (Nat × (Nat → Int32))} {H : jm_H} {Q : Option Value → jm_H → Prop} {r0 : Nat} {p0 : Int32} : jm_w S 4 52 7 [.ref r0, .null] [.int p0] H Q = if (p0 - (45 : Int32)) ≤ 0 then jm_w S 4 52 38 [.ref r0, .int (p0 - (45 : Int32))] [] H Q else jm_w S 4 52 15 [.ref r0, .int (p0 - (45 : Int32))] [] H Q := (jscb at52_7 rfl rfl).trans ((js0 at52_9 rfl rfl rfl).trans ((js1 at52_10 rfl rfl rfl).trans ((js1 at52_11 rfl rfl rfl).trans (jsif (P := (p0 - (45 : Int32)) ≤ 0) at52_12 rfl rfl))))
theorem at52_15 : jm_at 52 15 = some (.aload_n 0) := by decide +kernel
theorem at52_16 : jm_at 52 16 = some (.aload_n 0) := by decide +kernel
theorem at52_17 : jm_at 52 17 = some (.getfield 30) := by decide +kernel
theorem at52_20 : jm_at 52 20 = some (.iload_n 1) := by decide +kernel
theorem at52_21 : jm_at 52 21 = some (.ineg) := by decide +kernel
theorem at52_22 : jm_at 52 22 = some (.invokestatic 91) := by decide +kernel
theorem rv52i_91 : jm_rv 52 (.invokestatic 91) = (1, 56, 0, 0) := by decide +kernel
theorem u52_15 {S : Option (Nat × (Nat → Int32))} {H : jm_H} {Q : Option Value → jm_H → Prop} {r0 : Nat} {x1 : Int32} (h0 : jm_tg H r0 = 3) : jm_w S 4 52 15 [.ref r0, .int x1] [] H Q = jm_c S 56 [.long (jm_L H r0 3), .int (-x1)] H (fun v G => jm_w S 4 52 25 [.ref r0, .int x1] (v.toList ++ [.ref r0]) G Q) := (js1 at52_15 rfl rfl rfl).trans ((js1 at52_16 rfl rfl rfl).trans ((jsgL (H := H) at52_17 rv52g_30 rfl h0 rfl).trans ((js1 at52_20 rfl rfl rfl).trans ((js0 at52_21 rfl rfl rfl).trans (jscall (H := H) (as := [.long (jm_L H r0 3), .int (-x1)]) (q := [.ref r0]) at52_22 rfl rv52i_91 (jscut rfl rfl rfl (Nat.le_of_ble_eq_true rfl)) rfl (Nat.le_of_ble_eq_true rfl) rfl rfl)))))
theorem at52_25 : jm_at 52 25 = some (.putfield 30) := by decide +kernel
theorem rv52p_30 : jm_rv 52 (.putfield 30) = (0, 2, 3, 0) := by decide +kernel
theorem at52_28 : jm_at 52 28 = some (.aload_n 0) := by decide +kernel
theorem at52_29 : jm_at 52 29 = some (.dup) := by decide +kernel
theorem at52_30 : jm_at 52 30 = some (.getfield 34) := by decide +kernel
theorem rv52g_34 : jm_rv 52 (.getfield 34) = (0, 2, 4, 0) := by decide +kernel
theorem at52_33 : jm_at 52 33 = some (.iload_n 1) := by decide +kernel
theorem at52_34 : jm_at 52 34 = some (.iadd) := by decide +kernel
theorem at52_35 : jm_at 52 35 = some (.putfield 34) := by decide +kernel
theorem rv52p_34 : jm_rv 52 (.putfield 34) = (0, 2, 4, 0) := by decide +kernel
theorem u52_25 {S : Option (Nat × (Nat → Int32))} {H : jm_H} {Q : Option Value → jm_H → Prop} {r0 o0 : Nat} {x1 : Int32} {q1 : Int64} (h0 : jm_tg H o0 = 3) (h1 : jm_tg H r0 = 3) : jm_w S 4 52 25 [.ref r0, .int x1] [.long q1, .ref o0] H Q = jm_w S 4 52 38 [.ref r0, .int x1] [] (jm_pI (jm_pL H o0 3 q1) r0 4 ((jm_I H r0 4) + x1)) Q := (jspL (H := H) at52_25 rv52p_30 rfl h0 rfl).trans ((js1 at52_28 rfl rfl rfl).trans ((js0 at52_29 rfl rfl rfl).trans ((jsgI (H := (jm_pL H o0 3 q1)) at52_30 rv52g_34 (Or.inl rfl) h1 rfl).trans ((js1 at52_33 rfl rfl rfl).trans ((js0 at52_34 rfl rfl rfl).trans (jspI (H := (jm_pL H o0 3 q1)) at52_35 rv52p_34 rfl h1 rfl))))))
theorem at52_38 : jm_at 52 38 = some (.return_) := by decide +kernel
theorem u52_38 {S : Option (Nat × (Nat → Int32))} {H : jm_H} {Q : Option Value → jm_H → Prop} {r0 : Nat} {x1 : Int32} : jm_w S 4 52 38 [.ref r0, .int x1] [] H Q = Q none H := jsret_v at52_38 rfl
theorem en52 {S : Option (Nat × (Nat → Int32))} {H : jm_H} {Q : Option Value → jm_H → Prop} {r0 : Nat} : jm_c S 52 [.ref r0] H Q = jm_w S 4 52 0 [.ref r0, .null] [] H Q := rfl
theorem at53_0 : jm_at 53 0 = some (.bipush 64) := by decide +kernel
theorem at53_2 : jm_at 53 2 = some (.lload_n 0) := by decide +kernel
theorem at53_3 : jm_at 53 3 = some (.invokestatic 82) := by decide +kernel
theorem rv53i_82 : jm_rv 53 (.invokestatic 82) = (1, 54, 0, 0) := by decide +kernel
theorem u53_0 {S : Option (Nat × (Nat → Int32))} {H : jm_H} {Q : Option Value → jm_H → Prop} {y0 : Int64} : jm_w S 3 53 0 [.long y0, .null] [] H Q = jm_c S 54 [.long y0] H (fun v G => jm_w S 3 53 6 [.long y0, .null] (v.toList ++ [.int (64 : Int32)]) G Q) := (jscb at53_0 rfl rfl).trans ((js1 at53_2 rfl rfl rfl).trans (jscall (H := H) (as := [.long y0]) (q := [.int (64 : Int32)]) at53_3 rfl rv53i_82 (jscut rfl rfl rfl (Nat.le_of_ble_eq_true rfl)) rfl (Nat.le_of_ble_eq_true rfl) rfl rfl))
theorem at53_6 : jm_at 53 6 = some (.isub) := by decide +kernel
theorem at53_7 : jm_at 53 7 = some (.ireturn) := by decide +kernel
theorem u53_6 {S : Option (Nat × (Nat → Int32))} {H : jm_H} {Q : Option Value → jm_H → Prop} {y0 : Int64} {p0 p1 : Int32} : jm_w S 3 53 6 [.long y0, .null] [.int p1, .int p0] H Q = Q (some (.int (p0 - p1))) H := (js0 at53_6 rfl rfl rfl).trans (jsret_i at53_7 rfl)
theorem en53 {S : Option (Nat × (Nat → Int32))} {H : jm_H} {Q : Option Value → jm_H → Prop} {y0 : Int64} : jm_c S 53 [.long y0] H Q = jm_w S 3 53 0 [.long y0, .null] [] H Q := rfl
theorem at56_0 : jm_at 56 0 = some (.iload_n 2) := by decide +kernel
theorem at56_1 : jm_at 56 1 = some (.ifCond .lt 12) := by decide +kernel
theorem u56_0 {S : Option (Nat × (Nat → Int32))} {H : jm_H} {Q : Option Value → jm_H → Prop} {y0 : Int64} {x2 : Int32} : jm_w S 2 56 0 [.long y0, .null, .int x2, .null, .null] [] H Q = if x2 < 0 then jm_w S 2 56 13 [.long y0, .null, .int x2, .null, .null] [] H Q else jm_w S 2 56 4 [.long y0, .null, .int x2, .null, .null] [] H Q := (js1 at56_0 rfl rfl rfl).trans (jsif (P := x2 < 0) at56_1 rfl rfl)
theorem at56_4 : jm_at 56 4 = some (.lload_n 0) := by decide +kernel
theorem at56_5 : jm_at 56 5 = some (.iload_n 2) := by decide +kernel
theorem at56_6 : jm_at 56 6 = some (.bipush 62) := by decide +kernel
theorem at56_8 : jm_at 56 8 = some (.invokestatic 85) := by decide +kernel
theorem rv56i_85 : jm_rv 56 (.invokestatic 85) = (1, 57, 0, 0) := by decide +kernel
theorem u56_4 {S : Option (Nat × (Nat → Int32))} {H : jm_H} {Q : Option Value → jm_H → Prop} {y0 : Int64} {x2 : Int32} : jm_w S 2 56 4 [.long y0, .null, .int x2, .null, .null] [] H Q = jm_c S 57 [.int x2, .int (62 : Int32)] H (fun v G => jm_w S 2 56 11 [.long y0, .null, .int x2, .null, .null] (v.toList ++ [.long y0]) G Q) := (js1 at56_4 rfl rfl rfl).trans ((js1 at56_5 rfl rfl rfl).trans ((jscb at56_6 rfl rfl).trans (jscall (H := H) (as := [.int x2, .int (62 : Int32)]) (q := [.long y0]) at56_8 rfl rv56i_85 (jscut rfl rfl rfl (Nat.le_of_ble_eq_true rfl)) rfl (Nat.le_of_ble_eq_true rfl) rfl rfl)))
theorem at56_11 : jm_at 56 11 = some (.lshl) := by decide +kernel
theorem at56_12 : jm_at 56 12 = some (.lreturn) := by decide +kernel
theorem u56_11 {S : Option (Nat × (Nat → Int32))} {H : jm_H} {Q : Option Value → jm_H → Prop} {y0 q0 : Int64} {x2 p1 : Int32} : jm_w S 2 56 11 [.long y0, .null, .int x2, .null, .null] [.int p1, .long q0] H Q = Q (some (.long (q0 <<< (Int32.toInt64 p1 &&& 63)))) H := (js0 at56_11 rfl rfl rfl).trans (jsret_l at56_12 rfl)
theorem at56_13 : jm_at 56 13 = some (.iload_n 2) := by decide +kernel
theorem at56_14 : jm_at 56 14 = some (.bipush (-62)) := by decide +kernel
theorem at56_16 : jm_at 56 16 = some (.if_icmp .ge 15) := by decide +kernel
theorem u56_13 {S : Option (Nat × (Nat → Int32))} {H : jm_H} {Q : Option Value → jm_H → Prop} {y0 : Int64} {x2 : Int32} : jm_w S 2 56 13 [.long y0, .null, .int x2, .null, .null] [] H Q = if (-62 : Int32) ≤ x2 then jm_w S 2 56 31 [.long y0, .null, .int x2, .null, .null] [] H Q else jm_w S 2 56 19 [.long y0, .null, .int x2, .null, .null] [] H Q := (js1 at56_13 rfl rfl rfl).trans ((jscb at56_14 rfl rfl).trans (jsif (P := (-62 : Int32) ≤ x2) at56_16 rfl rfl))
theorem at56_19 : jm_at 56 19 = some (.lload_n 0) := by decide +kernel
theorem at56_20 : jm_at 56 20 = some (.lconst 0) := by decide +kernel
theorem at56_21 : jm_at 56 21 = some (.lcmp) := by decide +kernel
theorem at56_22 : jm_at 56 22 = some (.ifCond .ne 7) := by decide +kernel
theorem u56_19 {S : Option (Nat × (Nat → Int32))} {H : jm_H} {Q : Option Value → jm_H → Prop} {y0 : Int64} {x2 : Int32} : jm_w S 2 56 19 [.long y0, .null, .int x2, .null, .null] [] H Q = if ¬ (lg_cmp y0 (0 : Int64)) = 0 then jm_w S 2 56 29 [.long y0, .null, .int x2, .null, .null] [] H Q else jm_w S 2 56 25 [.long y0, .null, .int x2, .null, .null] [] H Q := (js1 at56_19 rfl rfl rfl).trans ((jscl at56_20 rfl rfl).trans ((js0 at56_21 rfl rfl rfl).trans (jsif (P := ¬ (lg_cmp y0 (0 : Int64)) = 0) at56_22 rfl rfl)))
theorem at56_25 : jm_at 56 25 = some (.lconst 0) := by decide +kernel
theorem at56_26 : jm_at 56 26 = some (.goto 4) := by decide +kernel
theorem u56_25 {S : Option (Nat × (Nat → Int32))} {H : jm_H} {Q : Option Value → jm_H → Prop} {y0 : Int64} {x2 : Int32} : jm_w S 2 56 25 [.long y0, .null, .int x2, .null, .null] [] H Q = jm_w S 2 56 30 [.long y0, .null, .int x2, .null, .null] [.long (0 : Int64)] H Q := (jscl at56_25 rfl rfl).trans (js2 at56_26 rfl rfl)
theorem at56_29 : jm_at 56 29 = some (.lconst 1) := by decide +kernel
theorem u56_29 {S : Option (Nat × (Nat → Int32))} {H : jm_H} {Q : Option Value → jm_H → Prop} {y0 : Int64} {x2 : Int32} : jm_w S 2 56 29 [.long y0, .null, .int x2, .null, .null] [] H Q = jm_w S 2 56 30 [.long y0, .null, .int x2, .null, .null] [.long (1 : Int64)] H Q := jscl at56_29 rfl rfl
theorem at56_30 : jm_at 56 30 = some (.lreturn) := by decide +kernel
theorem u56_30 {S : Option (Nat × (Nat → Int32))} {H : jm_H} {Q : Option Value → jm_H → Prop} {y0 q0 : Int64} {x2 : Int32} : jm_w S 2 56 30 [.long y0, .null, .int x2, .null, .null] [.long q0] H Q = Q (some (.long q0)) H := jsret_l at56_30 rfl
theorem at56_31 : jm_at 56 31 = some (.lload_n 0) := by decide +kernel
theorem at56_32 : jm_at 56 32 = some (.lconst 1) := by decide +kernel
theorem at56_33 : jm_at 56 33 = some (.iload_n 2) := by decide +kernel
theorem at56_34 : jm_at 56 34 = some (.ineg) := by decide +kernel
theorem at56_35 : jm_at 56 35 = some (.lshl) := by decide +kernel
theorem at56_36 : jm_at 56 36 = some (.lconst 1) := by decide +kernel
theorem at56_37 : jm_at 56 37 = some (.lsub) := by decide +kernel
theorem at56_38 : jm_at 56 38 = some (.land) := by decide +kernel
theorem at56_39 : jm_at 56 39 = some (.lstore_n 3) := by decide +kernel
theorem at56_40 : jm_at 56 40 = some (.lload_n 0) := by decide +kernel
theorem at56_41 : jm_at 56 41 = some (.iload_n 2) := by decide +kernel
theorem at56_42 : jm_at 56 42 = some (.ineg) := by decide +kernel
theorem at56_43 : jm_at 56 43 = some (.lshr) := by decide +kernel
theorem at56_44 : jm_at 56 44 = some (.lload_n 3) := by decide +kernel
theorem at56_45 : jm_at 56 45 = some (.lconst 0) := by decide +kernel
theorem at56_46 : jm_at 56 46 = some (.lcmp) := by decide +kernel
theorem at56_47 : jm_at 56 47 = some (.ifCond .ne 7) := by decide +kernel
theorem u56_31 {S : Option (Nat × (Nat → Int32))} {H : jm_H} {Q : Option Value → jm_H → Prop} {y0 : Int64} {x2 : Int32} : jm_w S 2 56 31 [.long y0, .null, .int x2, .null, .null] [] H Q = if ¬ (lg_cmp (y0 &&& (((1 : Int64) <<< (Int32.toInt64 (-x2) &&& 63)) - (1 : Int64))) (0 : Int64)) = 0 then jm_w S 2 56 54 [.long y0, .null, .int x2, .long (y0 &&& (((1 : Int64) <<< (Int32.toInt64 (-x2) &&& 63)) - (1 : Int64))), .null] [.long (y0 >>> (Int32.toInt64 (-x2) &&& 63))] H Q else jm_w S 2 56 50 [.long y0, .null, .int x2, .long (y0 &&& (((1 : Int64) <<< (Int32.toInt64 (-x2) &&& 63)) - (1 : Int64))), .null] [.long (y0 >>> (Int32.toInt64 (-x2) &&& 63))] H Q := (js1 at56_31 rfl rfl rfl).trans ((jscl at56_32 rfl rfl).trans ((js1 at56_33 rfl rfl rfl).trans ((js0 at56_34 rfl rfl rfl).trans ((js0 at56_35 rfl rfl rfl).trans ((jscl at56_36 rfl rfl).trans ((js0 at56_37 rfl rfl rfl).trans ((js0 at56_38 rfl rfl rfl).trans ((js1 at56_39 rfl rfl rfl).trans ((js1 at56_40 rfl rfl rfl).trans ((js1 at56_41 rfl rfl rfl).trans ((js0 at56_42 rfl rfl rfl).trans ((js0 at56_43 rfl rfl rfl).trans ((js1 at56_44 rfl rfl rfl).trans ((jscl at56_45 rfl rfl).trans ((js0 at56_46 rfl rfl rfl).trans (jsif (P := ¬ (lg_cmp (y0 &&& (((1 : Int64) <<< (Int32.toInt64 (-x2) &&& 63)) - (1 : Int64))) (0 : Int64)) = 0) at56_47 rfl rfl))))))))))))))))
theorem at56_50 : jm_at 56 50 = some (.iconst 0) := by decide +kernel
theorem at56_51 : jm_at 56 51 = some (.goto 4) := by decide +kernel
theorem u56_50 {S : Option (Nat × (Nat → Int32))} {H : jm_H} {Q : Option Value → jm_H → Prop} {y0 y3 q0 : Int64} {x2 : Int32} : jm_w S 2 56 50 [.long y0, .null, .int x2, .long y3, .null] [.long q0] H Q = jm_w S 2 56 55 [.long y0, .null, .int x2, .long y3, .null] [.int (0 : Int32), .long q0] H Q := (jsci at56_50 rfl rfl).trans (js2 at56_51 rfl rfl)
theorem at56_54 : jm_at 56 54 = some (.iconst 1) := by decide +kernel
theorem u56_54 {S : Option (Nat × (Nat → Int32))} {H : jm_H} {Q : Option Value → jm_H → Prop} {y0 y3 q0 : Int64} {x2 : Int32} : jm_w S 2 56 54 [.long y0, .null, .int x2, .long y3, .null] [.long q0] H Q = jm_w S 2 56 55 [.long y0, .null, .int x2, .long y3, .null] [.int (1 : Int32), .long q0] H Q := jsci at56_54 rfl rfl
theorem at56_55 : jm_at 56 55 = some (.i2l) := by decide +kernel
theorem at56_56 : jm_at 56 56 = some (.lor) := by decide +kernel
theorem at56_57 : jm_at 56 57 = some (.lreturn) := by decide +kernel
theorem u56_55 {S : Option (Nat × (Nat → Int32))} {H : jm_H} {Q : Option Value → jm_H → Prop} {y0 y3 q0 : Int64} {x2 p1 : Int32} : jm_w S 2 56 55 [.long y0, .null, .int x2, .long y3, .null] [.int p1, .long q0] H Q = Q (some (.long (q0 ||| (Int32.toInt64 p1)))) H := (js0 at56_55 rfl rfl rfl).trans ((js0 at56_56 rfl rfl rfl).trans (jsret_l at56_57 rfl))
theorem en56 {S : Option (Nat × (Nat → Int32))} {H : jm_H} {Q : Option Value → jm_H → Prop} {y0 : Int64} {x2 : Int32} : jm_c S 56 [.long y0, .int x2] H Q = jm_w S 2 56 0 [.long y0, .null, .int x2, .null, .null] [] H Q := rfl
theorem at59_0 : jm_at 59 0 = some (.aload_n 0) := by decide +kernel
theorem at59_1 : jm_at 59 1 = some (.getfield 34) := by decide +kernel
theorem rv59g_34 : jm_rv 59 (.getfield 34) = (0, 2, 4, 0) := by decide +kernel
theorem at59_4 : jm_at 59 4 = some (.bipush 63) := by decide +kernel
theorem at59_6 : jm_at 59 6 = some (.iadd) := by decide +kernel
theorem at59_7 : jm_at 59 7 = some (.aload_n 0) := by decide +kernel
theorem at59_8 : jm_at 59 8 = some (.getfield 30) := by decide +kernel
theorem rv59g_30 : jm_rv 59 (.getfield 30) = (0, 2, 3, 0) := by decide +kernel
theorem at59_11 : jm_at 59 11 = some (.invokestatic 82) := by decide +kernel
theorem rv59i_82 : jm_rv 59 (.invokestatic 82) = (1, 54, 0, 0) := by decide +kernel
theorem u59_0 {S : Option (Nat × (Nat → Int32))} {H : jm_H} {Q : Option Value → jm_H → Prop} {r0 : Nat} (h0 : jm_tg H r0 = 3) : jm_w S 3 59 0 [.ref r0] [] H Q = jm_c S 54 [.long (jm_L H r0 3)] H (fun v G => jm_w S 3 59 14 [.ref r0] (v.toList ++ [.int ((jm_I H r0 4) + (63 : Int32))]) G Q) := (js1 at59_0 rfl rfl rfl).trans ((jsgI (H := H) at59_1 rv59g_34 (Or.inl rfl) h0 rfl).trans ((jscb at59_4 rfl rfl).trans ((js0 at59_6 rfl rfl rfl).trans ((js1 at59_7 rfl rfl rfl).trans ((jsgL (H := H) at59_8 rv59g_30 rfl h0 rfl).trans (jscall (H := H) (as := [.long (jm_L H r0 3)]) (q := [.int ((jm_I H r0 4) + (63 : Int32))]) at59_11 rfl rv59i_82 (jscut rfl rfl rfl (Nat.le_of_ble_eq_true rfl)) rfl (Nat.le_of_ble_eq_true rfl) rfl rfl))))))
theorem at59_14 : jm_at 59 14 = some (.isub) := by decide +kernel
theorem at59_15 : jm_at 59 15 = some (.ireturn) := by decide +kernel
theorem u59_14 {S : Option (Nat × (Nat → Int32))} {H : jm_H} {Q : Option Value → jm_H → Prop} {r0 : Nat} {p0 p1 : Int32} : jm_w S 3 59 14 [.ref r0] [.int p1, .int p0] H Q = Q (some (.int (p0 - p1))) H := (js0 at59_14 rfl rfl rfl).trans (jsret_i at59_15 rfl)
theorem en59 {S : Option (Nat × (Nat → Int32))} {H : jm_H} {Q : Option Value → jm_H → Prop} {r0 : Nat} : jm_c S 59 [.ref r0] H Q = jm_w S 3 59 0 [.ref r0] [] H Q := rfl
theorem at68_0 : jm_at 68 0 = some (.iload_n 3) := by decide +kernel
theorem at68_1 : jm_at 68 1 = some (.ifCond .ne 11) := by decide +kernel
theorem u68_0 {S : Option (Nat × (Nat → Int32))} {H : jm_H} {Q : Option Value → jm_H → Prop} {r0 : Nat} {x1 x2 x3 : Int32} : jm_w S 3 68 0 [.ref r0, .int x1, .int x2, .int x3, .null, .null, .null, .null, .null] [] H Q = if ¬ x3 = 0 then jm_w S 3 68 12 [.ref r0, .int x1, .int x2, .int x3, .null, .null, .null, .null, .null] [] H Q else jm_w S 3 68 4 [.ref r0, .int x1, .int x2, .int x3, .null, .null, .null, .null, .null] [] H Q := (js1 at68_0 rfl rfl rfl).trans (jsif (P := ¬ x3 = 0) at68_1 rfl rfl)
theorem at68_4 : jm_at 68 4 = some (.aload_n 0) := by decide +kernel
theorem at68_5 : jm_at 68 5 = some (.iconst 0) := by decide +kernel
theorem at68_6 : jm_at 68 6 = some (.lconst 0) := by decide +kernel
theorem at68_7 : jm_at 68 7 = some (.iconst 0) := by decide +kernel
theorem at68_8 : jm_at 68 8 = some (.invokevirtual 18) := by decide +kernel
theorem rv68i_18 : jm_rv 68 (.invokevirtual 18) = (2, 48, 0, 0) := by decide +kernel
theorem u68_4 {S : Option (Nat × (Nat → Int32))} {H : jm_H} {Q : Option Value → jm_H → Prop} {r0 : Nat} {x1 x2 x3 : Int32} (h0 : jm_tg H r0 = 3) : jm_w S 3 68 4 [.ref r0, .int x1, .int x2, .int x3, .null, .null, .null, .null, .null] [] H Q = jm_c S 48 [.ref r0, .int (0 : Int32), .long (0 : Int64), .int (0 : Int32)] H (fun v G => jm_w S 3 68 11 [.ref r0, .int x1, .int x2, .int x3, .null, .null, .null, .null, .null] (v.toList ++ []) G Q) := (js1 at68_4 rfl rfl rfl).trans ((jsci at68_5 rfl rfl).trans ((jscl at68_6 rfl rfl).trans ((jsci at68_7 rfl rfl).trans (jscall (H := H) (as := [.ref r0, .int (0 : Int32), .long (0 : Int64), .int (0 : Int32)]) (q := []) at68_8 rfl rv68i_18 (jscutV rfl rfl rfl (Nat.le_of_ble_eq_true rfl) rfl h0) rfl (Nat.le_of_ble_eq_true rfl) rfl rfl))))
theorem at68_11 : jm_at 68 11 = some (.return_) := by decide +kernel
theorem u68_11 {S : Option (Nat × (Nat → Int32))} {H : jm_H} {Q : Option Value → jm_H → Prop} {r0 : Nat} {x1 x2 x3 : Int32} : jm_w S 3 68 11 [.ref r0, .int x1, .int x2, .int x3, .null, .null, .null, .null, .null] [] H Q = Q none H := jsret_v at68_11 rfl
theorem at68_12 : jm_at 68 12 = some (.iload_n 1) := by decide +kernel
theorem at68_13 : jm_at 68 13 = some (.iload_n 3) := by decide +kernel
theorem at68_14 : jm_at 68 14 = some (.invokestatic 49) := by decide +kernel
theorem rv68i_49 : jm_rv 68 (.invokestatic 49) = (1, 69, 0, 0) := by decide +kernel
theorem u68_12 {S : Option (Nat × (Nat → Int32))} {H : jm_H} {Q : Option Value → jm_H → Prop} {r0 : Nat} {x1 x2 x3 : Int32} : jm_w S 3 68 12 [.ref r0, .int x1, .int x2, .int x3, .null, .null, .null, .null, .null] [] H Q = jm_c S 69 [.int x1, .int x3] H (fun v G => jm_w S 3 68 17 [.ref r0, .int x1, .int x2, .int x3, .null, .null, .null, .null, .null] (v.toList ++ []) G Q) := (js1 at68_12 rfl rfl rfl).trans ((js1 at68_13 rfl rfl rfl).trans (jscall (H := H) (as := [.int x1, .int x3]) (q := []) at68_14 rfl rv68i_49 (jscut rfl rfl rfl (Nat.le_of_ble_eq_true rfl)) rfl (Nat.le_of_ble_eq_true rfl) rfl rfl))
theorem at68_17 : jm_at 68 17 = some (.ifCond .eq 8) := by decide +kernel
theorem u68_17 {S : Option (Nat × (Nat → Int32))} {H : jm_H} {Q : Option Value → jm_H → Prop} {r0 : Nat} {x1 x2 x3 p0 : Int32} : jm_w S 3 68 17 [.ref r0, .int x1, .int x2, .int x3, .null, .null, .null, .null, .null] [.int p0] H Q = if p0 = 0 then jm_w S 3 68 25 [.ref r0, .int x1, .int x2, .int x3, .null, .null, .null, .null, .null] [] H Q else jm_w S 3 68 20 [.ref r0, .int x1, .int x2, .int x3, .null, .null, .null, .null, .null] [] H Q := jsif (P := p0 = 0) at68_17 rfl rfl
theorem at68_20 : jm_at 68 20 = some (.aload_n 0) := by decide +kernel
theorem at68_21 : jm_at 68 21 = some (.invokevirtual 53) := by decide +kernel
theorem rv68i_53 : jm_rv 68 (.invokevirtual 53) = (2, 70, 0, 0) := by decide +kernel
theorem u68_20 {S : Option (Nat × (Nat → Int32))} {H : jm_H} {Q : Option Value → jm_H → Prop} {r0 : Nat} {x1 x2 x3 : Int32} (h0 : jm_tg H r0 = 3) : jm_w S 3 68 20 [.ref r0, .int x1, .int x2, .int x3, .null, .null, .null, .null, .null] [] H Q = jm_c S 70 [.ref r0] H (fun v G => jm_w S 3 68 24 [.ref r0, .int x1, .int x2, .int x3, .null, .null, .null, .null, .null] (v.toList ++ []) G Q) := (js1 at68_20 rfl rfl rfl).trans (jscall (H := H) (as := [.ref r0]) (q := []) at68_21 rfl rv68i_53 (jscutV rfl rfl rfl (Nat.le_of_ble_eq_true rfl) rfl h0) rfl (Nat.le_of_ble_eq_true rfl) rfl rfl)
theorem at68_24 : jm_at 68 24 = some (.return_) := by decide +kernel
theorem u68_24 {S : Option (Nat × (Nat → Int32))} {H : jm_H} {Q : Option Value → jm_H → Prop} {r0 : Nat} {x1 x2 x3 : Int32} : jm_w S 3 68 24 [.ref r0, .int x1, .int x2, .int x3, .null, .null, .null, .null, .null] [] H Q = Q none H := jsret_v at68_24 rfl
theorem at68_25 : jm_at 68 25 = some (.iload_n 1) := by decide +kernel
theorem at68_26 : jm_at 68 26 = some (.iload_n 3) := by decide +kernel
theorem at68_27 : jm_at 68 27 = some (.invokestatic 56) := by decide +kernel
theorem rv68i_56 : jm_rv 68 (.invokestatic 56) = (1, 71, 0, 0) := by decide +kernel
theorem u68_25 {S : Option (Nat × (Nat → Int32))} {H : jm_H} {Q : Option Value → jm_H → Prop} {r0 : Nat} {x1 x2 x3 : Int32} : jm_w S 3 68 25 [.ref r0, .int x1, .int x2, .int x3, .null, .null, .null, .null, .null] [] H Q = jm_c S 71 [.int x1, .int x3] H (fun v G => jm_w S 3 68 30 [.ref r0, .int x1, .int x2, .int x3, .null, .null, .null, .null, .null] (v.toList ++ []) G Q) := (js1 at68_25 rfl rfl rfl).trans ((js1 at68_26 rfl rfl rfl).trans (jscall (H := H) (as := [.int x1, .int x3]) (q := []) at68_27 rfl rv68i_56 (jscut rfl rfl rfl (Nat.le_of_ble_eq_true rfl)) rfl (Nat.le_of_ble_eq_true rfl) rfl rfl))
theorem at68_30 : jm_at 68 30 = some (.istore 4) := by decide +kernel
theorem at68_32 : jm_at 68 32 = some (.aload_n 0) := by decide +kernel
theorem at68_33 : jm_at 68 33 = some (.getfield 12) := by decide +kernel
theorem rv68g_12 : jm_rv 68 (.getfield 12) = (0, 2, 0, 0) := by decide +kernel
theorem at68_36 : jm_at 68 36 = some (.iload_n 1) := by decide +kernel
theorem at68_37 : jm_at 68 37 = some (.iload_n 2) := by decide +kernel
theorem at68_38 : jm_at 68 38 = some (.iload 4) := by decide +kernel
theorem at68_40 : jm_at 68 40 = some (.invokevirtual 60) := by decide +kernel
theorem rv68i_60 : jm_rv 68 (.invokevirtual 60) = (2, 72, 0, 0) := by decide +kernel
theorem u68_30 {S : Option (Nat × (Nat → Int32))} {H : jm_H} {Q : Option Value → jm_H → Prop} {r0 : Nat} {x1 x2 x3 p0 : Int32} (h0 : jm_tg H r0 = 3) (h1 : ¬ jm_R H r0 0 = 0) (h2 : jm_tg H (jm_R H r0 0) = 5) : jm_w S 3 68 30 [.ref r0, .int x1, .int x2, .int x3, .null, .null, .null, .null, .null] [.int p0] H Q = jm_c S 72 [.ref (jm_R H r0 0), .int x1, .int x2, .int p0] H (fun v G => jm_w S 3 68 43 [.ref r0, .int x1, .int x2, .int x3, .int p0, .null, .null, .null, .null] (v.toList ++ []) G Q) := (js1 at68_30 rfl rfl rfl).trans ((js1 at68_32 rfl rfl rfl).trans ((jsgR (H := H) at68_33 rv68g_12 rfl h0 h1 rfl).trans ((js1 at68_36 rfl rfl rfl).trans ((js1 at68_37 rfl rfl rfl).trans ((js1 at68_38 rfl rfl rfl).trans (jscall (H := H) (as := [.ref (jm_R H r0 0), .int x1, .int x2, .int p0]) (q := []) at68_40 rfl rv68i_60 (jscutV rfl rfl rfl (Nat.le_of_ble_eq_true rfl) rfl h2) rfl (Nat.le_of_ble_eq_true rfl) rfl rfl))))))
theorem at68_43 : jm_at 68 43 = some (.aload_n 0) := by decide +kernel
theorem at68_44 : jm_at 68 44 = some (.getfield 12) := by decide +kernel
theorem at68_47 : jm_at 68 47 = some (.getfield 64) := by decide +kernel
theorem rv68g_64 : jm_rv 68 (.getfield 64) = (0, 4, 1, 0) := by decide +kernel
theorem at68_50 : jm_at 68 50 = some (.iload_n 2) := by decide +kernel
theorem at68_51 : jm_at 68 51 = some (.ishl) := by decide +kernel
theorem at68_52 : jm_at 68 52 = some (.aload_n 0) := by decide +kernel
theorem at68_53 : jm_at 68 53 = some (.getfield 12) := by decide +kernel
theorem at68_56 : jm_at 68 56 = some (.getfield 67) := by decide +kernel
theorem rv68g_67 : jm_rv 68 (.getfield 67) = (0, 4, 2, 0) := by decide +kernel
theorem at68_59 : jm_at 68 59 = some (.iadd) := by decide +kernel
theorem at68_60 : jm_at 68 60 = some (.istore 5) := by decide +kernel
theorem at68_62 : jm_at 68 62 = some (.lconst 1) := by decide +kernel
theorem at68_63 : jm_at 68 63 = some (.aload_n 0) := by decide +kernel
theorem at68_64 : jm_at 68 64 = some (.getfield 12) := by decide +kernel
theorem at68_67 : jm_at 68 67 = some (.getfield 70) := by decide +kernel
theorem rv68g_70 : jm_rv 68 (.getfield 70) = (0, 4, 3, 0) := by decide +kernel
theorem at68_70 : jm_at 68 70 = some (.lshl) := by decide +kernel
theorem at68_71 : jm_at 68 71 = some (.aload_n 0) := by decide +kernel
theorem at68_72 : jm_at 68 72 = some (.getfield 12) := by decide +kernel
theorem at68_75 : jm_at 68 75 = some (.getfield 73) := by decide +kernel
theorem rv68g_73 : jm_rv 68 (.getfield 73) = (0, 4, 4, 0) := by decide +kernel
theorem at68_78 : jm_at 68 78 = some (.i2l) := by decide +kernel
theorem at68_79 : jm_at 68 79 = some (.ladd) := by decide +kernel
theorem at68_80 : jm_at 68 80 = some (.lstore 6) := by decide +kernel
theorem at68_82 : jm_at 68 82 = some (.lload 6) := by decide +kernel
theorem at68_84 : jm_at 68 84 = some (.invokestatic 76) := by decide +kernel
theorem rv68i_76 : jm_rv 68 (.invokestatic 76) = (1, 75, 0, 0) := by decide +kernel
theorem u68_43 {S : Option (Nat × (Nat → Int32))} {H : jm_H} {Q : Option Value → jm_H → Prop} {r0 : Nat} {x1 x2 x3 x4 : Int32} (h0 : jm_tg H r0 = 3) (h1 : ¬ jm_R H r0 0 = 0) (h2 : jm_tg H (jm_R H r0 0) = 5) : jm_w S 3 68 43 [.ref r0, .int x1, .int x2, .int x3, .int x4, .null, .null, .null, .null] [] H Q = jm_c S 75 [.long (((1 : Int64) <<< (Int32.toInt64 (jm_I H (jm_R H r0 0) 3) &&& 63)) + (Int32.toInt64 (jm_I H (jm_R H r0 0) 4)))] H (fun v G => jm_w S 3 68 87 [.ref r0, .int x1, .int x2, .int x3, .int x4, .int (((jm_I H (jm_R H r0 0) 1) <<< (x2 &&& 31)) + (jm_I H (jm_R H r0 0) 2)), .long (((1 : Int64) <<< (Int32.toInt64 (jm_I H (jm_R H r0 0) 3) &&& 63)) + (Int32.toInt64 (jm_I H (jm_R H r0 0) 4))), .null, .null] (v.toList ++ []) G Q) := (js1 at68_43 rfl rfl rfl).trans ((jsgR (H := H) at68_44 rv68g_12 rfl h0 h1 rfl).trans ((jsgI (H := H) at68_47 rv68g_64 (Or.inl rfl) h2 rfl).trans ((js1 at68_50 rfl rfl rfl).trans ((js0 at68_51 rfl rfl rfl).trans ((js1 at68_52 rfl rfl rfl).trans ((jsgR (H := H) at68_53 rv68g_12 rfl h0 h1 rfl).trans ((jsgI (H := H) at68_56 rv68g_67 (Or.inl rfl) h2 rfl).trans ((js0 at68_59 rfl rfl rfl).trans ((js1 at68_60 rfl rfl rfl).trans ((jscl at68_62 rfl rfl).trans ((js1 at68_63 rfl rfl rfl).trans ((jsgR (H := H) at68_64 rv68g_12 rfl h0 h1 rfl).trans ((jsgI (H := H) at68_67 rv68g_70 (Or.inl rfl) h2 rfl).trans ((js0 at68_70 rfl rfl rfl).trans ((js1 at68_71 rfl rfl rfl).trans ((jsgR (H := H) at68_72 rv68g_12 rfl h0 h1 rfl).trans ((jsgI (H := H) at68_75 rv68g_73 (Or.inl rfl) h2 rfl).trans ((js0 at68_78 rfl rfl rfl).trans ((js0 at68_79 rfl rfl rfl).trans ((js1 at68_80 rfl rfl rfl).trans ((js1 at68_82 rfl rfl rfl).trans (jscall (H := H) (as := [.long (((1 : Int64) <<< (Int32.toInt64 (jm_I H (jm_R H r0 0) 3) &&& 63)) + (Int32.toInt64 (jm_I H (jm_R H r0 0) 4)))]) (q := []) at68_84 rfl rv68i_76 (jscut rfl rfl rfl (Nat.le_of_ble_eq_true rfl)) rfl (Nat.le_of_ble_eq_true rfl) rfl rfl))))))))))))))))))))))
theorem at68_87 : jm_at 68 87 = some (.istore 8) := by decide +kernel
theorem at68_89 : jm_at 68 89 = some (.aload_n 0) := by decide +kernel
theorem at68_90 : jm_at 68 90 = some (.iload 4) := by decide +kernel
theorem at68_92 : jm_at 68 92 = some (.iload_n 3) := by decide +kernel
theorem at68_93 : jm_at 68 93 = some (.if_icmp .ne 7) := by decide +kernel
theorem u68_87 {S : Option (Nat × (Nat → Int32))} {H : jm_H} {Q : Option Value → jm_H → Prop} {r0 : Nat} {x1 x2 x3 x4 x5 p0 : Int32} {y6 : Int64} : jm_w S 3 68 87 [.ref r0, .int x1, .int x2, .int x3, .int x4, .int x5, .long y6, .null, .null] [.int p0] H Q = if ¬ x4 = x3 then jm_w S 3 68 100 [.ref r0, .int x1, .int x2, .int x3, .int x4, .int x5, .long y6, .null, .int p0] [.ref r0] H Q else jm_w S 3 68 96 [.ref r0, .int x1, .int x2, .int x3, .int x4, .int x5, .long y6, .null, .int p0] [.ref r0] H Q := (js1 at68_87 rfl rfl rfl).trans ((js1 at68_89 rfl rfl rfl).trans ((js1 at68_90 rfl rfl rfl).trans ((js1 at68_92 rfl rfl rfl).trans (jsif (P := ¬ x4 = x3) at68_93 rfl rfl))))
theorem at68_96 : jm_at 68 96 = some (.iconst 1) := by decide +kernel
theorem at68_97 : jm_at 68 97 = some (.goto 4) := by decide +kernel
theorem u68_96 {S : Option (Nat × (Nat → Int32))} {H : jm_H} {Q : Option Value → jm_H → Prop} {r0 o0 : Nat} {x1 x2 x3 x4 x5 x8 : Int32} {y6 : Int64} : jm_w S 3 68 96 [.ref r0, .int x1, .int x2, .int x3, .int x4, .int x5, .long y6, .null, .int x8] [.ref o0] H Q = jm_w S 3 68 101 [.ref r0, .int x1, .int x2, .int x3, .int x4, .int x5, .long y6, .null, .int x8] [.int (1 : Int32), .ref o0] H Q := (jsci at68_96 rfl rfl).trans (js2 at68_97 rfl rfl)
theorem at68_100 : jm_at 68 100 = some (.iconst (-1)) := by decide +kernel
theorem u68_100 {S : Option (Nat × (Nat → Int32))} {H : jm_H} {Q : Option Value → jm_H → Prop} {r0 o0 : Nat} {x1 x2 x3 x4 x5 x8 : Int32} {y6 : Int64} : jm_w S 3 68 100 [.ref r0, .int x1, .int x2, .int x3, .int x4, .int x5, .long y6, .null, .int x8] [.ref o0] H Q = jm_w S 3 68 101 [.ref r0, .int x1, .int x2, .int x3, .int x4, .int x5, .long y6, .null, .int x8] [.int (-1 : Int32), .ref o0] H Q := jsci at68_100 rfl rfl
theorem at68_101 : jm_at 68 101 = some (.lload 6) := by decide +kernel
theorem at68_103 : jm_at 68 103 = some (.iload 8) := by decide +kernel
theorem at68_105 : jm_at 68 105 = some (.lshr) := by decide +kernel
theorem at68_106 : jm_at 68 106 = some (.iload 5) := by decide +kernel
theorem at68_108 : jm_at 68 108 = some (.aload_n 0) := by decide +kernel
theorem at68_109 : jm_at 68 109 = some (.getfield 12) := by decide +kernel
theorem at68_112 : jm_at 68 112 = some (.getfield 70) := by decide +kernel
theorem at68_115 : jm_at 68 115 = some (.isub) := by decide +kernel
theorem at68_116 : jm_at 68 116 = some (.iload 8) := by decide +kernel
theorem at68_118 : jm_at 68 118 = some (.iadd) := by decide +kernel
theorem at68_119 : jm_at 68 119 = some (.invokevirtual 18) := by decide +kernel
theorem u68_101 {S : Option (Nat × (Nat → Int32))} {H : jm_H} {Q : Option Value → jm_H → Prop} {r0 o0 : Nat} {x1 x2 x3 x4 x5 x8 p1 : Int32} {y6 : Int64} (h0 : jm_tg H r0 = 3) (h1 : ¬ jm_R H r0 0 = 0) (h2 : jm_tg H (jm_R H r0 0) = 5) (h3 : jm_tg H o0 = 3) : jm_w S 3 68 101 [.ref r0, .int x1, .int x2, .int x3, .int x4, .int x5, .long y6, .null, .int x8] [.int p1, .ref o0] H Q = jm_c S 48 [.ref o0, .int p1, .long (y6 >>> (Int32.toInt64 x8 &&& 63)), .int ((x5 - (jm_I H (jm_R H r0 0) 3)) + x8)] H (fun v G => jm_w S 3 68 122 [.ref r0, .int x1, .int x2, .int x3, .int x4, .int x5, .long y6, .null, .int x8] (v.toList ++ []) G Q) := (js1 at68_101 rfl rfl rfl).trans ((js1 at68_103 rfl rfl rfl).trans ((js0 at68_105 rfl rfl rfl).trans ((js1 at68_106 rfl rfl rfl).trans ((js1 at68_108 rfl rfl rfl).trans ((jsgR (H := H) at68_109 rv68g_12 rfl h0 h1 rfl).trans ((jsgI (H := H) at68_112 rv68g_70 (Or.inl rfl) h2 rfl).trans ((js0 at68_115 rfl rfl rfl).trans ((js1 at68_116 rfl rfl rfl).trans ((js0 at68_118 rfl rfl rfl).trans (jscall (H := H) (as := [.ref o0, .int p1, .long (y6 >>> (Int32.toInt64 x8 &&& 63)), .int ((x5 - (jm_I H (jm_R H r0 0) 3)) + x8)]) (q := []) at68_119 rfl rv68i_18 (jscutV rfl rfl rfl (Nat.le_of_ble_eq_true rfl) rfl h3) rfl (Nat.le_of_ble_eq_true rfl) rfl rfl))))))))))
theorem at68_122 : jm_at 68 122 = some (.return_) := by decide +kernel
theorem u68_122 {S : Option (Nat × (Nat → Int32))} {H : jm_H} {Q : Option Value → jm_H → Prop} {r0 : Nat} {x1 x2 x3 x4 x5 x8 : Int32} {y6 : Int64} : jm_w S 3 68 122 [.ref r0, .int x1, .int x2, .int x3, .int x4, .int x5, .long y6, .null, .int x8] [] H Q = Q none H := jsret_v at68_122 rfl
theorem en68 {S : Option (Nat × (Nat → Int32))} {H : jm_H} {Q : Option Value → jm_H → Prop} {r0 : Nat} {x1 x2 x3 : Int32} : jm_c S 68 [.ref r0, .int x1, .int x2, .int x3] H Q = jm_w S 3 68 0 [.ref r0, .int x1, .int x2, .int x3, .null, .null, .null, .null, .null] [] H Q := rfl
theorem at70_0 : jm_at 70 0 = some (.aload_n 0) := by decide +kernel
theorem at70_1 : jm_at 70 1 = some (.iconst 0) := by decide +kernel
theorem at70_2 : jm_at 70 2 = some (.lconst 0) := by decide +kernel
theorem at70_3 : jm_at 70 3 = some (.iconst 0) := by decide +kernel
theorem at70_4 : jm_at 70 4 = some (.invokevirtual 18) := by decide +kernel
theorem rv70i_18 : jm_rv 70 (.invokevirtual 18) = (2, 48, 0, 0) := by decide +kernel
theorem u70_0 {S : Option (Nat × (Nat → Int32))} {H : jm_H} {Q : Option Value → jm_H → Prop} {r0 : Nat} (h0 : jm_tg H r0 = 3) : jm_w S 2 70 0 [.ref r0] [] H Q = jm_c S 48 [.ref r0, .int (0 : Int32), .long (0 : Int64), .int (0 : Int32)] H (fun v G => jm_w S 2 70 7 [.ref r0] (v.toList ++ []) G Q) := (js1 at70_0 rfl rfl rfl).trans ((jsci at70_1 rfl rfl).trans ((jscl at70_2 rfl rfl).trans ((jsci at70_3 rfl rfl).trans (jscall (H := H) (as := [.ref r0, .int (0 : Int32), .long (0 : Int64), .int (0 : Int32)]) (q := []) at70_4 rfl rv70i_18 (jscutV rfl rfl rfl (Nat.le_of_ble_eq_true rfl) rfl h0) rfl (Nat.le_of_ble_eq_true rfl) rfl rfl))))
theorem at70_7 : jm_at 70 7 = some (.aload_n 0) := by decide +kernel
theorem at70_8 : jm_at 70 8 = some (.iconst 1) := by decide +kernel
theorem at70_9 : jm_at 70 9 = some (.putfield 22) := by decide +kernel
theorem rv70p_22 : jm_rv 70 (.putfield 22) = (0, 2, 1, 0) := by decide +kernel
theorem at70_12 : jm_at 70 12 = some (.return_) := by decide +kernel
theorem u70_7 {S : Option (Nat × (Nat → Int32))} {H : jm_H} {Q : Option Value → jm_H → Prop} {r0 : Nat} (h0 : jm_tg H r0 = 3) : jm_w S 2 70 7 [.ref r0] [] H Q = Q none (jm_pI H r0 1 (1 : Int32)) := (js1 at70_7 rfl rfl rfl).trans ((jsci at70_8 rfl rfl).trans ((jspZ (H := H) at70_9 rv70p_22 rfl h0 (by decide) rfl).trans (jsret_v at70_12 rfl)))
theorem en70 {S : Option (Nat × (Nat → Int32))} {H : jm_H} {Q : Option Value → jm_H → Prop} {r0 : Nat} : jm_c S 70 [.ref r0] H Q = jm_w S 2 70 0 [.ref r0] [] H Q := rfl
theorem at109_0 : jm_at 109 0 = some (.aload_n 0) := by decide +kernel
theorem at109_1 : jm_at 109 1 = some (.getfield 22) := by decide +kernel
theorem rv109g_22 : jm_rv 109 (.getfield 22) = (0, 2, 1, 0) := by decide +kernel
theorem at109_4 : jm_at 109 4 = some (.ifCond .ne 10) := by decide +kernel
theorem u109_0 {S : Option (Nat × (Nat → Int32))} {H : jm_H} {Q : Option Value → jm_H → Prop} {r0 : Nat} (h0 : jm_tg H r0 = 3) : jm_w S 4 109 0 [.ref r0, .null, .null, .null, .null, .null, .null] [] H Q = if ¬ (jm_I H r0 1) = 0 then jm_w S 4 109 14 [.ref r0, .null, .null, .null, .null, .null, .null] [] H Q else jm_w S 4 109 7 [.ref r0, .null, .null, .null, .null, .null, .null] [] H Q := (js1 at109_0 rfl rfl rfl).trans ((jsgI (H := H) at109_1 rv109g_22 (Or.inr rfl) h0 rfl).trans (jsif (P := ¬ (jm_I H r0 1) = 0) at109_4 rfl rfl))
theorem at109_7 : jm_at 109 7 = some (.aload_n 0) := by decide +kernel
theorem at109_8 : jm_at 109 8 = some (.getfield 26) := by decide +kernel
theorem rv109g_26 : jm_rv 109 (.getfield 26) = (0, 2, 2, 0) := by decide +kernel
theorem at109_11 : jm_at 109 11 = some (.ifCond .ne 5) := by decide +kernel
theorem u109_7 {S : Option (Nat × (Nat → Int32))} {H : jm_H} {Q : Option Value → jm_H → Prop} {r0 : Nat} (h0 : jm_tg H r0 = 3) : jm_w S 4 109 7 [.ref r0, .null, .null, .null, .null, .null, .null] [] H Q = if ¬ (jm_I H r0 2) = 0 then jm_w S 4 109 16 [.ref r0, .null, .null, .null, .null, .null, .null] [] H Q else jm_w S 4 109 14 [.ref r0, .null, .null, .null, .null, .null, .null] [] H Q := (js1 at109_7 rfl rfl rfl).trans ((jsgI (H := H) at109_8 rv109g_26 (Or.inl rfl) h0 rfl).trans (jsif (P := ¬ (jm_I H r0 2) = 0) at109_11 rfl rfl))
theorem at109_14 : jm_at 109 14 = some (.iconst 0) := by decide +kernel
theorem at109_15 : jm_at 109 15 = some (.ireturn) := by decide +kernel
theorem u109_14 {S : Option (Nat × (Nat → Int32))} {H : jm_H} {Q : Option Value → jm_H → Prop} {r0 : Nat} : jm_w S 4 109 14 [.ref r0, .null, .null, .null, .null, .null, .null] [] H Q = Q (some (.int (0 : Int32))) H := (jsci at109_14 rfl rfl).trans (jsret_i at109_15 rfl)
theorem at109_16 : jm_at 109 16 = some (.aload_n 0) := by decide +kernel
theorem at109_17 : jm_at 109 17 = some (.invokevirtual 95) := by decide +kernel
theorem rv109i_95 : jm_rv 109 (.invokevirtual 95) = (2, 59, 0, 0) := by decide +kernel
theorem u109_16 {S : Option (Nat × (Nat → Int32))} {H : jm_H} {Q : Option Value → jm_H → Prop} {r0 : Nat} (h0 : jm_tg H r0 = 3) : jm_w S 4 109 16 [.ref r0, .null, .null, .null, .null, .null, .null] [] H Q = jm_c S 59 [.ref r0] H (fun v G => jm_w S 4 109 20 [.ref r0, .null, .null, .null, .null, .null, .null] (v.toList ++ []) G Q) := (js1 at109_16 rfl rfl rfl).trans (jscall (H := H) (as := [.ref r0]) (q := []) at109_17 rfl rv109i_95 (jscutV rfl rfl rfl (Nat.le_of_ble_eq_true rfl) rfl h0) rfl (Nat.le_of_ble_eq_true rfl) rfl rfl)
theorem at109_20 : jm_at 109 20 = some (.bipush 30) := by decide +kernel
theorem at109_22 : jm_at 109 22 = some (.if_icmp .le 11) := by decide +kernel
theorem u109_20 {S : Option (Nat × (Nat → Int32))} {H : jm_H} {Q : Option Value → jm_H → Prop} {r0 : Nat} {p0 : Int32} : jm_w S 4 109 20 [.ref r0, .null, .null, .null, .null, .null, .null] [.int p0] H Q = if p0 ≤ (30 : Int32) then jm_w S 4 109 33 [.ref r0, .null, .null, .null, .null, .null, .null] [] H Q else jm_w S 4 109 25 [.ref r0, .null, .null, .null, .null, .null, .null] [] H Q := (jscb at109_20 rfl rfl).trans (jsif (P := p0 ≤ (30 : Int32)) at109_22 rfl rfl)
theorem at109_25 : jm_at 109 25 = some (.aload_n 0) := by decide +kernel
theorem at109_26 : jm_at 109 26 = some (.getfield 26) := by decide +kernel
theorem at109_29 : jm_at 109 29 = some (.ldc 99) := by decide +kernel
theorem rv109l_99 : jm_rv 109 (.ldc 99) = (8, 0, 0, 2000000000) := by decide +kernel
theorem at109_31 : jm_at 109 31 = some (.imul) := by decide +kernel
theorem at109_32 : jm_at 109 32 = some (.ireturn) := by decide +kernel
theorem u109_25 {S : Option (Nat × (Nat → Int32))} {H : jm_H} {Q : Option Value → jm_H → Prop} {r0 : Nat} (h0 : jm_tg H r0 = 3) : jm_w S 4 109 25 [.ref r0, .null, .null, .null, .null, .null, .null] [] H Q = Q (some (.int ((jm_I H r0 2) * (2000000000 : Int32)))) H := (js1 at109_25 rfl rfl rfl).trans ((jsgI (H := H) at109_26 rv109g_26 (Or.inl rfl) h0 rfl).trans ((jsk at109_29 rv109l_99 rfl rfl).trans ((js0 at109_31 rfl rfl rfl).trans (jsret_i at109_32 rfl))))
theorem at109_33 : jm_at 109 33 = some (.aload_n 0) := by decide +kernel
theorem at109_34 : jm_at 109 34 = some (.invokevirtual 95) := by decide +kernel
theorem u109_33 {S : Option (Nat × (Nat → Int32))} {H : jm_H} {Q : Option Value → jm_H → Prop} {r0 : Nat} (h0 : jm_tg H r0 = 3) : jm_w S 4 109 33 [.ref r0, .null, .null, .null, .null, .null, .null] [] H Q = jm_c S 59 [.ref r0] H (fun v G => jm_w S 4 109 37 [.ref r0, .null, .null, .null, .null, .null, .null] (v.toList ++ []) G Q) := (js1 at109_33 rfl rfl rfl).trans (jscall (H := H) (as := [.ref r0]) (q := []) at109_34 rfl rv109i_95 (jscutV rfl rfl rfl (Nat.le_of_ble_eq_true rfl) rfl h0) rfl (Nat.le_of_ble_eq_true rfl) rfl rfl)
theorem at109_37 : jm_at 109 37 = some (.iconst (-1)) := by decide +kernel
theorem at109_38 : jm_at 109 38 = some (.if_icmp .ge 5) := by decide +kernel
theorem u109_37 {S : Option (Nat × (Nat → Int32))} {H : jm_H} {Q : Option Value → jm_H → Prop} {r0 : Nat} {p0 : Int32} : jm_w S 4 109 37 [.ref r0, .null, .null, .null, .null, .null, .null] [.int p0] H Q = if (-1 : Int32) ≤ p0 then jm_w S 4 109 43 [.ref r0, .null, .null, .null, .null, .null, .null] [] H Q else jm_w S 4 109 41 [.ref r0, .null, .null, .null, .null, .null, .null] [] H Q := (jsci at109_37 rfl rfl).trans (jsif (P := (-1 : Int32) ≤ p0) at109_38 rfl rfl)
theorem at109_41 : jm_at 109 41 = some (.iconst 0) := by decide +kernel
theorem at109_42 : jm_at 109 42 = some (.ireturn) := by decide +kernel
theorem u109_41 {S : Option (Nat × (Nat → Int32))} {H : jm_H} {Q : Option Value → jm_H → Prop} {r0 : Nat} : jm_w S 4 109 41 [.ref r0, .null, .null, .null, .null, .null, .null] [] H Q = Q (some (.int (0 : Int32))) H := (jsci at109_41 rfl rfl).trans (jsret_i at109_42 rfl)
theorem at109_43 : jm_at 109 43 = some (.aload_n 0) := by decide +kernel
theorem at109_44 : jm_at 109 44 = some (.getfield 30) := by decide +kernel
theorem rv109g_30 : jm_rv 109 (.getfield 30) = (0, 2, 3, 0) := by decide +kernel
theorem at109_47 : jm_at 109 47 = some (.aload_n 0) := by decide +kernel
theorem at109_48 : jm_at 109 48 = some (.getfield 34) := by decide +kernel
theorem rv109g_34 : jm_rv 109 (.getfield 34) = (0, 2, 4, 0) := by decide +kernel
theorem at109_51 : jm_at 109 51 = some (.iconst 2) := by decide +kernel
theorem at109_52 : jm_at 109 52 = some (.iadd) := by decide +kernel
theorem at109_53 : jm_at 109 53 = some (.invokestatic 91) := by decide +kernel
theorem rv109i_91 : jm_rv 109 (.invokestatic 91) = (1, 56, 0, 0) := by decide +kernel
theorem u109_43 {S : Option (Nat × (Nat → Int32))} {H : jm_H} {Q : Option Value → jm_H → Prop} {r0 : Nat} (h0 : jm_tg H r0 = 3) : jm_w S 4 109 43 [.ref r0, .null, .null, .null, .null, .null, .null] [] H Q = jm_c S 56 [.long (jm_L H r0 3), .int ((jm_I H r0 4) + (2 : Int32))] H (fun v G => jm_w S 4 109 56 [.ref r0, .null, .null, .null, .null, .null, .null] (v.toList ++ []) G Q) := (js1 at109_43 rfl rfl rfl).trans ((jsgL (H := H) at109_44 rv109g_30 rfl h0 rfl).trans ((js1 at109_47 rfl rfl rfl).trans ((jsgI (H := H) at109_48 rv109g_34 (Or.inl rfl) h0 rfl).trans ((jsci at109_51 rfl rfl).trans ((js0 at109_52 rfl rfl rfl).trans (jscall (H := H) (as := [.long (jm_L H r0 3), .int ((jm_I H r0 4) + (2 : Int32))]) (q := []) at109_53 rfl rv109i_91 (jscut rfl rfl rfl (Nat.le_of_ble_eq_true rfl)) rfl (Nat.le_of_ble_eq_true rfl) rfl rfl))))))
theorem at109_56 : jm_at 109 56 = some (.lstore_n 1) := by decide +kernel
theorem at109_57 : jm_at 109 57 = some (.lload_n 1) := by decide +kernel
theorem at109_58 : jm_at 109 58 = some (.iconst 2) := by decide +kernel
theorem at109_59 : jm_at 109 59 = some (.lshr) := by decide +kernel
theorem at109_60 : jm_at 109 60 = some (.lstore_n 3) := by decide +kernel
theorem at109_61 : jm_at 109 61 = some (.lload_n 1) := by decide +kernel
theorem at109_62 : jm_at 109 62 = some (.ldc2_w 100) := by decide +kernel
theorem rv109l_100 : jm_rv 109 (.ldc2_w 100) = (9, 0, 0, 3) := by decide +kernel
theorem at109_65 : jm_at 109 65 = some (.land) := by decide +kernel
theorem at109_66 : jm_at 109 66 = some (.lstore 5) := by decide +kernel
theorem at109_68 : jm_at 109 68 = some (.lload 5) := by decide +kernel
theorem at109_70 : jm_at 109 70 = some (.ldc2_w 100) := by decide +kernel
theorem at109_73 : jm_at 109 73 = some (.lcmp) := by decide +kernel
theorem at109_74 : jm_at 109 74 = some (.ifCond .eq 20) := by decide +kernel
theorem u109_56 {S : Option (Nat × (Nat → Int32))} {H : jm_H} {Q : Option Value → jm_H → Prop} {r0 : Nat} {q0 : Int64} : jm_w S 4 109 56 [.ref r0, .null, .null, .null, .null, .null, .null] [.long q0] H Q = if (lg_cmp (q0 &&& (3 : Int64)) (3 : Int64)) = 0 then jm_w S 4 109 94 [.ref r0, .long q0, .null, .long (q0 >>> (Int32.toInt64 (2 : Int32) &&& 63)), .null, .long (q0 &&& (3 : Int64)), .null] [] H Q else jm_w S 4 109 77 [.ref r0, .long q0, .null, .long (q0 >>> (Int32.toInt64 (2 : Int32) &&& 63)), .null, .long (q0 &&& (3 : Int64)), .null] [] H Q := (js1 at109_56 rfl rfl rfl).trans ((js1 at109_57 rfl rfl rfl).trans ((jsci at109_58 rfl rfl).trans ((js0 at109_59 rfl rfl rfl).trans ((js1 at109_60 rfl rfl rfl).trans ((js1 at109_61 rfl rfl rfl).trans ((jsk2 at109_62 rv109l_100 rfl rfl).trans ((js0 at109_65 rfl rfl rfl).trans ((js1 at109_66 rfl rfl rfl).trans ((js1 at109_68 rfl rfl rfl).trans ((jsk2 at109_70 rv109l_100 rfl rfl).trans ((js0 at109_73 rfl rfl rfl).trans (jsif (P := (lg_cmp (q0 &&& (3 : Int64)) (3 : Int64)) = 0) at109_74 rfl rfl))))))))))))
theorem at109_77 : jm_at 109 77 = some (.lload 5) := by decide +kernel
theorem at109_79 : jm_at 109 79 = some (.ldc2_w 102) := by decide +kernel
theorem rv109l_102 : jm_rv 109 (.ldc2_w 102) = (9, 0, 0, 2) := by decide +kernel
theorem at109_82 : jm_at 109 82 = some (.lcmp) := by decide +kernel
theorem at109_83 : jm_at 109 83 = some (.ifCond .ne 15) := by decide +kernel
theorem u109_77 {S : Option (Nat × (Nat → Int32))} {H : jm_H} {Q : Option Value → jm_H → Prop} {r0 : Nat} {y1 y3 y5 : Int64} : jm_w S 4 109 77 [.ref r0, .long y1, .null, .long y3, .null, .long y5, .null] [] H Q = if ¬ (lg_cmp y5 (2 : Int64)) = 0 then jm_w S 4 109 98 [.ref r0, .long y1, .null, .long y3, .null, .long y5, .null] [] H Q else jm_w S 4 109 86 [.ref r0, .long y1, .null, .long y3, .null, .long y5, .null] [] H Q := (js1 at109_77 rfl rfl rfl).trans ((jsk2 at109_79 rv109l_102 rfl rfl).trans ((js0 at109_82 rfl rfl rfl).trans (jsif (P := ¬ (lg_cmp y5 (2 : Int64)) = 0) at109_83 rfl rfl)))
theorem at109_86 : jm_at 109 86 = some (.lload_n 3) := by decide +kernel
theorem at109_87 : jm_at 109 87 = some (.lconst 1) := by decide +kernel
theorem at109_88 : jm_at 109 88 = some (.land) := by decide +kernel
theorem at109_89 : jm_at 109 89 = some (.lconst 1) := by decide +kernel
theorem at109_90 : jm_at 109 90 = some (.lcmp) := by decide +kernel
theorem at109_91 : jm_at 109 91 = some (.ifCond .ne 7) := by decide +kernel
theorem u109_86 {S : Option (Nat × (Nat → Int32))} {H : jm_H} {Q : Option Value → jm_H → Prop} {r0 : Nat} {y1 y3 y5 : Int64} : jm_w S 4 109 86 [.ref r0, .long y1, .null, .long y3, .null, .long y5, .null] [] H Q = if ¬ (lg_cmp (y3 &&& (1 : Int64)) (1 : Int64)) = 0 then jm_w S 4 109 98 [.ref r0, .long y1, .null, .long y3, .null, .long y5, .null] [] H Q else jm_w S 4 109 94 [.ref r0, .long y1, .null, .long y3, .null, .long y5, .null] [] H Q := (js1 at109_86 rfl rfl rfl).trans ((jscl at109_87 rfl rfl).trans ((js0 at109_88 rfl rfl rfl).trans ((jscl at109_89 rfl rfl).trans ((js0 at109_90 rfl rfl rfl).trans (jsif (P := ¬ (lg_cmp (y3 &&& (1 : Int64)) (1 : Int64)) = 0) at109_91 rfl rfl)))))
theorem at109_94 : jm_at 109 94 = some (.lload_n 3) := by decide +kernel
theorem at109_95 : jm_at 109 95 = some (.lconst 1) := by decide +kernel
theorem at109_96 : jm_at 109 96 = some (.ladd) := by decide +kernel
theorem at109_97 : jm_at 109 97 = some (.lstore_n 3) := by decide +kernel
theorem u109_94 {S : Option (Nat × (Nat → Int32))} {H : jm_H} {Q : Option Value → jm_H → Prop} {r0 : Nat} {y1 y3 y5 : Int64} : jm_w S 4 109 94 [.ref r0, .long y1, .null, .long y3, .null, .long y5, .null] [] H Q = jm_w S 4 109 98 [.ref r0, .long y1, .null, .long (y3 + (1 : Int64)), .null, .long y5, .null] [] H Q := (js1 at109_94 rfl rfl rfl).trans ((jscl at109_95 rfl rfl).trans ((js0 at109_96 rfl rfl rfl).trans (js1 at109_97 rfl rfl rfl)))
theorem at109_98 : jm_at 109 98 = some (.aload_n 0) := by decide +kernel
theorem at109_99 : jm_at 109 99 = some (.getfield 26) := by decide +kernel
theorem at109_102 : jm_at 109 102 = some (.lload_n 3) := by decide +kernel
theorem at109_103 : jm_at 109 103 = some (.ldc2_w 104) := by decide +kernel
theorem rv109l_104 : jm_rv 109 (.ldc2_w 104) = (9, 0, 0, 2000000000) := by decide +kernel
theorem at109_106 : jm_at 109 106 = some (.invokestatic 106) := by decide +kernel
theorem rv109i_106 : jm_rv 109 (.invokestatic 106) = (1, 110, 0, 0) := by decide +kernel
theorem u109_98 {S : Option (Nat × (Nat → Int32))} {H : jm_H} {Q : Option Value → jm_H → Prop} {r0 : Nat} {y1 y3 y5 : Int64} (h0 : jm_tg H r0 = 3) : jm_w S 4 109 98 [.ref r0, .long y1, .null, .long y3, .null, .long y5, .null] [] H Q = jm_c S 110 [.long y3, .long (2000000000 : Int64)] H (fun v G => jm_w S 4 109 109 [.ref r0, .long y1, .null, .long y3, .null, .long y5, .null] (v.toList ++ [.int (jm_I H r0 2)]) G Q) := (js1 at109_98 rfl rfl rfl).trans ((jsgI (H := H) at109_99 rv109g_26 (Or.inl rfl) h0 rfl).trans ((js1 at109_102 rfl rfl rfl).trans ((jsk2 at109_103 rv109l_104 rfl rfl).trans (jscall (H := H) (as := [.long y3, .long (2000000000 : Int64)]) (q := [.int (jm_I H r0 2)]) at109_106 rfl rv109i_106 (jscut rfl rfl rfl (Nat.le_of_ble_eq_true rfl)) rfl (Nat.le_of_ble_eq_true rfl) rfl rfl))))
theorem at109_109 : jm_at 109 109 = some (.l2i) := by decide +kernel
theorem at109_110 : jm_at 109 110 = some (.imul) := by decide +kernel
theorem at109_111 : jm_at 109 111 = some (.ireturn) := by decide +kernel
theorem u109_109 {S : Option (Nat × (Nat → Int32))} {H : jm_H} {Q : Option Value → jm_H → Prop} {r0 : Nat} {y1 y3 y5 q1 : Int64} {p0 : Int32} : jm_w S 4 109 109 [.ref r0, .long y1, .null, .long y3, .null, .long y5, .null] [.long q1, .int p0] H Q = Q (some (.int (p0 * (Int64.toInt32 q1)))) H := (js0 at109_109 rfl rfl rfl).trans ((js0 at109_110 rfl rfl rfl).trans (jsret_i at109_111 rfl))
theorem en109 {S : Option (Nat × (Nat → Int32))} {H : jm_H} {Q : Option Value → jm_H → Prop} {r0 : Nat} : jm_c S 109 [.ref r0] H Q = jm_w S 4 109 0 [.ref r0, .null, .null, .null, .null, .null, .null] [] H Q := rfl
theorem at124_0 : jm_at 124 0 = some (.iconst 1) := by decide +kernel
theorem at124_1 : jm_at 124 1 = some (.istore_n 2) := by decide +kernel
theorem at124_2 : jm_at 124 2 = some (.aload_n 0) := by decide +kernel
theorem at124_3 : jm_at 124 3 = some (.iconst 1) := by decide +kernel
theorem at124_4 : jm_at 124 4 = some (.invokevirtual 119) := by decide +kernel
theorem rv124i_119 : jm_rv 124 (.invokevirtual 119) = (2, 125, 0, 0) := by decide +kernel
theorem u124_0 {S : Option (Nat × (Nat → Int32))} {H : jm_H} {Q : Option Value → jm_H → Prop} {r0 : Nat} {x1 : Int32} (h0 : jm_tg H r0 = 3) : jm_w S 5 124 0 [.ref r0, .int x1, .null, .null, .null, .null, .null, .null] [] H Q = jm_c S 125 [.ref r0, .int (1 : Int32)] H (fun v G => jm_w S 5 124 7 [.ref r0, .int x1, .int (1 : Int32), .null, .null, .null, .null, .null] (v.toList ++ []) G Q) := (jsci at124_0 rfl rfl).trans ((js1 at124_1 rfl rfl rfl).trans ((js1 at124_2 rfl rfl rfl).trans ((jsci at124_3 rfl rfl).trans (jscall (H := H) (as := [.ref r0, .int (1 : Int32)]) (q := []) at124_4 rfl rv124i_119 (jscutV rfl rfl rfl (Nat.le_of_ble_eq_true rfl) rfl h0) rfl (Nat.le_of_ble_eq_true rfl) rfl rfl))))
theorem at124_7 : jm_at 124 7 = some (.lstore_n 3) := by decide +kernel
theorem at124_8 : jm_at 124 8 = some (.iconst 2) := by decide +kernel
theorem at124_9 : jm_at 124 9 = some (.istore 5) := by decide +kernel
theorem u124_7 {S : Option (Nat × (Nat → Int32))} {H : jm_H} {Q : Option Value → jm_H → Prop} {r0 : Nat} {x1 x2 : Int32} {q0 : Int64} : jm_w S 5 124 7 [.ref r0, .int x1, .int x2, .null, .null, .null, .null, .null] [.long q0] H Q = jm_w S 5 124 11 [.ref r0, .int x1, .int x2, .long q0, .null, .int (2 : Int32), .null, .null] [] H Q := (js1 at124_7 rfl rfl rfl).trans ((jsci at124_8 rfl rfl).trans (js1 at124_9 rfl rfl rfl))
theorem at124_11 : jm_at 124 11 = some (.iload 5) := by decide +kernel
theorem at124_13 : jm_at 124 13 = some (.iload_n 1) := by decide +kernel
theorem at124_14 : jm_at 124 14 = some (.if_icmp .gt 43) := by decide +kernel
theorem u124_11 {S : Option (Nat × (Nat → Int32))} {H : jm_H} {Q : Option Value → jm_H → Prop} {r0 : Nat} {x1 x2 x5 : Int32} {y3 : Int64} {w6 : Value} : jm_w S 5 124 11 [.ref r0, .int x1, .int x2, .long y3, .null, .int x5, w6, .null] [] H Q = if x1 < x5 then jm_w S 5 124 57 [.ref r0, .int x1, .int x2, .long y3, .null, .int x5, w6, .null] [] H Q else jm_w S 5 124 17 [.ref r0, .int x1, .int x2, .long y3, .null, .int x5, w6, .null] [] H Q := (js1 at124_11 rfl rfl rfl).trans ((js1 at124_13 rfl rfl rfl).trans (jsif (P := x1 < x5) at124_14 rfl rfl))
theorem at124_17 : jm_at 124 17 = some (.lload_n 3) := by decide +kernel
theorem at124_18 : jm_at 124 18 = some (.lconst 0) := by decide +kernel
theorem at124_19 : jm_at 124 19 = some (.lcmp) := by decide +kernel
theorem at124_20 : jm_at 124 20 = some (.ifCond .eq 37) := by decide +kernel
theorem u124_17 {S : Option (Nat × (Nat → Int32))} {H : jm_H} {Q : Option Value → jm_H → Prop} {r0 : Nat} {x1 x2 x5 : Int32} {y3 : Int64} {w6 : Value} : jm_w S 5 124 17 [.ref r0, .int x1, .int x2, .long y3, .null, .int x5, w6, .null] [] H Q = if (lg_cmp y3 (0 : Int64)) = 0 then jm_w S 5 124 57 [.ref r0, .int x1, .int x2, .long y3, .null, .int x5, w6, .null] [] H Q else jm_w S 5 124 23 [.ref r0, .int x1, .int x2, .long y3, .null, .int x5, w6, .null] [] H Q := (js1 at124_17 rfl rfl rfl).trans ((jscl at124_18 rfl rfl).trans ((js0 at124_19 rfl rfl rfl).trans (jsif (P := (lg_cmp y3 (0 : Int64)) = 0) at124_20 rfl rfl)))
theorem at124_23 : jm_at 124 23 = some (.aload_n 0) := by decide +kernel
theorem at124_24 : jm_at 124 24 = some (.iload 5) := by decide +kernel
theorem at124_26 : jm_at 124 26 = some (.invokevirtual 119) := by decide +kernel
theorem u124_23 {S : Option (Nat × (Nat → Int32))} {H : jm_H} {Q : Option Value → jm_H → Prop} {r0 : Nat} {x1 x2 x5 : Int32} {y3 : Int64} {w6 : Value} (h0 : jm_tg H r0 = 3) : jm_w S 5 124 23 [.ref r0, .int x1, .int x2, .long y3, .null, .int x5, w6, .null] [] H Q = jm_c S 125 [.ref r0, .int x5] H (fun v G => jm_w S 5 124 29 [.ref r0, .int x1, .int x2, .long y3, .null, .int x5, w6, .null] (v.toList ++ []) G Q) := (js1 at124_23 rfl rfl rfl).trans ((js1 at124_24 rfl rfl rfl).trans (jscall (H := H) (as := [.ref r0, .int x5]) (q := []) at124_26 rfl rv124i_119 (jscutV rfl rfl rfl (Nat.le_of_ble_eq_true rfl) rfl h0) rfl (Nat.le_of_ble_eq_true rfl) rfl rfl))
theorem at124_29 : jm_at 124 29 = some (.lstore 6) := by decide +kernel
theorem at124_31 : jm_at 124 31 = some (.lload 6) := by decide +kernel
theorem at124_33 : jm_at 124 33 = some (.iload_n 2) := by decide +kernel
theorem at124_34 : jm_at 124 34 = some (.i2l) := by decide +kernel
theorem at124_35 : jm_at 124 35 = some (.lmul) := by decide +kernel
theorem at124_36 : jm_at 124 36 = some (.lload_n 3) := by decide +kernel
theorem at124_37 : jm_at 124 37 = some (.iload 5) := by decide +kernel
theorem at124_39 : jm_at 124 39 = some (.i2l) := by decide +kernel
theorem at124_40 : jm_at 124 40 = some (.lmul) := by decide +kernel
theorem at124_41 : jm_at 124 41 = some (.lcmp) := by decide +kernel
theorem at124_42 : jm_at 124 42 = some (.ifCond .ge 9) := by decide +kernel
theorem u124_29 {S : Option (Nat × (Nat → Int32))} {H : jm_H} {Q : Option Value → jm_H → Prop} {r0 : Nat} {x1 x2 x5 : Int32} {y3 q0 : Int64} {w6 : Value} : jm_w S 5 124 29 [.ref r0, .int x1, .int x2, .long y3, .null, .int x5, w6, .null] [.long q0] H Q = if 0 ≤ (lg_cmp (q0 * (Int32.toInt64 x2)) (y3 * (Int32.toInt64 x5))) then jm_w S 5 124 51 [.ref r0, .int x1, .int x2, .long y3, .null, .int x5, .long q0, .null] [] H Q else jm_w S 5 124 45 [.ref r0, .int x1, .int x2, .long y3, .null, .int x5, .long q0, .null] [] H Q := (js1 at124_29 rfl rfl rfl).trans ((js1 at124_31 rfl rfl rfl).trans ((js1 at124_33 rfl rfl rfl).trans ((js0 at124_34 rfl rfl rfl).trans ((js0 at124_35 rfl rfl rfl).trans ((js1 at124_36 rfl rfl rfl).trans ((js1 at124_37 rfl rfl rfl).trans ((js0 at124_39 rfl rfl rfl).trans ((js0 at124_40 rfl rfl rfl).trans ((js0 at124_41 rfl rfl rfl).trans (jsif (P := 0 ≤ (lg_cmp (q0 * (Int32.toInt64 x2)) (y3 * (Int32.toInt64 x5)))) at124_42 rfl rfl))))))))))
theorem at124_45 : jm_at 124 45 = some (.iload 5) := by decide +kernel
theorem at124_47 : jm_at 124 47 = some (.istore_n 2) := by decide +kernel
theorem at124_48 : jm_at 124 48 = some (.lload 6) := by decide +kernel
theorem at124_50 : jm_at 124 50 = some (.lstore_n 3) := by decide +kernel
theorem u124_45 {S : Option (Nat × (Nat → Int32))} {H : jm_H} {Q : Option Value → jm_H → Prop} {r0 : Nat} {x1 x2 x5 : Int32} {y3 y6 : Int64} : jm_w S 5 124 45 [.ref r0, .int x1, .int x2, .long y3, .null, .int x5, .long y6, .null] [] H Q = jm_w S 5 124 51 [.ref r0, .int x1, .int x5, .long y6, .null, .int x5, .long y6, .null] [] H Q := (js1 at124_45 rfl rfl rfl).trans ((js1 at124_47 rfl rfl rfl).trans ((js1 at124_48 rfl rfl rfl).trans (js1 at124_50 rfl rfl rfl)))
theorem at124_51 : jm_at 124 51 = some (.iinc 5 1) := by decide +kernel
theorem at124_54 : jm_at 124 54 = some (.goto (-43)) := by decide +kernel
theorem u124_51 {S : Option (Nat × (Nat → Int32))} {H : jm_H} {Q : Option Value → jm_H → Prop} {r0 : Nat} {x1 x2 x5 : Int32} {y3 y6 : Int64} : jm_w S 5 124 51 [.ref r0, .int x1, .int x2, .long y3, .null, .int x5, .long y6, .null] [] H Q = jm_w S 5 124 11 [.ref r0, .int x1, .int x2, .long y3, .null, .int (x5 + 1), .long y6, .null] [] H Q := (jsinc at124_51 rfl rfl rfl).trans (js2 at124_54 rfl rfl)
theorem at124_57 : jm_at 124 57 = some (.iload_n 2) := by decide +kernel
theorem at124_58 : jm_at 124 58 = some (.ireturn) := by decide +kernel
theorem u124_57 {S : Option (Nat × (Nat → Int32))} {H : jm_H} {Q : Option Value → jm_H → Prop} {r0 : Nat} {x1 x2 x5 : Int32} {y3 : Int64} {w6 : Value} : jm_w S 5 124 57 [.ref r0, .int x1, .int x2, .long y3, .null, .int x5, w6, .null] [] H Q = Q (some (.int x2)) H := (js1 at124_57 rfl rfl rfl).trans (jsret_i at124_58 rfl)
theorem en124 {S : Option (Nat × (Nat → Int32))} {H : jm_H} {Q : Option Value → jm_H → Prop} {r0 : Nat} {x1 : Int32} : jm_c S 124 [.ref r0, .int x1] H Q = jm_w S 5 124 0 [.ref r0, .int x1, .null, .null, .null, .null, .null, .null] [] H Q := rfl
theorem at125_0 : jm_at 125 0 = some (.aload_n 0) := by decide +kernel
theorem at125_1 : jm_at 125 1 = some (.invokevirtual 115) := by decide +kernel
theorem rv125i_115 : jm_rv 125 (.invokevirtual 115) = (2, 126, 0, 0) := by decide +kernel
theorem u125_0 {S : Option (Nat × (Nat → Int32))} {H : jm_H} {Q : Option Value → jm_H → Prop} {r0 : Nat} {x1 : Int32} (h0 : jm_tg H r0 = 3) : jm_w S 4 125 0 [.ref r0, .int x1] [] H Q = jm_c S 126 [.ref r0] H (fun v G => jm_w S 4 125 4 [.ref r0, .int x1] (v.toList ++ []) G Q) := (js1 at125_0 rfl rfl rfl).trans (jscall (H := H) (as := [.ref r0]) (q := []) at125_1 rfl rv125i_115 (jscutV rfl rfl rfl (Nat.le_of_ble_eq_true rfl) rfl h0) rfl (Nat.le_of_ble_eq_true rfl) rfl rfl)
theorem at125_4 : jm_at 125 4 = some (.iload_n 1) := by decide +kernel
theorem at125_5 : jm_at 125 5 = some (.i2l) := by decide +kernel
theorem at125_6 : jm_at 125 6 = some (.lmul) := by decide +kernel
theorem at125_7 : jm_at 125 7 = some (.aload_n 0) := by decide +kernel
theorem at125_8 : jm_at 125 8 = some (.iload_n 1) := by decide +kernel
theorem at125_9 : jm_at 125 9 = some (.invokevirtual 123) := by decide +kernel
theorem rv125i_123 : jm_rv 125 (.invokevirtual 123) = (2, 127, 0, 0) := by decide +kernel
theorem u125_4 {S : Option (Nat × (Nat → Int32))} {H : jm_H} {Q : Option Value → jm_H → Prop} {r0 : Nat} {x1 : Int32} {q0 : Int64} (h0 : jm_tg H r0 = 3) : jm_w S 4 125 4 [.ref r0, .int x1] [.long q0] H Q = jm_c S 127 [.ref r0, .int x1] H (fun v G => jm_w S 4 125 12 [.ref r0, .int x1] (v.toList ++ [.long (q0 * (Int32.toInt64 x1))]) G Q) := (js1 at125_4 rfl rfl rfl).trans ((js0 at125_5 rfl rfl rfl).trans ((js0 at125_6 rfl rfl rfl).trans ((js1 at125_7 rfl rfl rfl).trans ((js1 at125_8 rfl rfl rfl).trans (jscall (H := H) (as := [.ref r0, .int x1]) (q := [.long (q0 * (Int32.toInt64 x1))]) at125_9 rfl rv125i_123 (jscutV rfl rfl rfl (Nat.le_of_ble_eq_true rfl) rfl h0) rfl (Nat.le_of_ble_eq_true rfl) rfl rfl)))))
theorem at125_12 : jm_at 125 12 = some (.aload_n 0) := by decide +kernel
theorem at125_13 : jm_at 125 13 = some (.invokevirtual 112) := by decide +kernel
theorem rv125i_112 : jm_rv 125 (.invokevirtual 112) = (2, 128, 0, 0) := by decide +kernel
theorem u125_12 {S : Option (Nat × (Nat → Int32))} {H : jm_H} {Q : Option Value → jm_H → Prop} {r0 : Nat} {x1 : Int32} {q0 q1 : Int64} (h0 : jm_tg H r0 = 3) : jm_w S 4 125 12 [.ref r0, .int x1] [.long q1, .long q0] H Q = jm_c S 128 [.ref r0] H (fun v G => jm_w S 4 125 16 [.ref r0, .int x1] (v.toList ++ [.long q1, .long q0]) G Q) := (js1 at125_12 rfl rfl rfl).trans (jscall (H := H) (as := [.ref r0]) (q := [.long q1, .long q0]) at125_13 rfl rv125i_112 (jscutV rfl rfl rfl (Nat.le_of_ble_eq_true rfl) rfl h0) rfl (Nat.le_of_ble_eq_true rfl) rfl rfl)
theorem at125_16 : jm_at 125 16 = some (.lshl) := by decide +kernel
theorem at125_17 : jm_at 125 17 = some (.lsub) := by decide +kernel
theorem at125_18 : jm_at 125 18 = some (.invokestatic 43) := by decide +kernel
theorem rv125i_43 : jm_rv 125 (.invokestatic 43) = (1, 47, 0, 0) := by decide +kernel
theorem u125_16 {S : Option (Nat × (Nat → Int32))} {H : jm_H} {Q : Option Value → jm_H → Prop} {r0 : Nat} {x1 p2 : Int32} {q0 q1 : Int64} : jm_w S 4 125 16 [.ref r0, .int x1] [.int p2, .long q1, .long q0] H Q = jm_c S 47 [.long (q0 - (q1 <<< (Int32.toInt64 p2 &&& 63)))] H (fun v G => jm_w S 4 125 21 [.ref r0, .int x1] (v.toList ++ []) G Q) := (js0 at125_16 rfl rfl rfl).trans ((js0 at125_17 rfl rfl rfl).trans (jscall (H := H) (as := [.long (q0 - (q1 <<< (Int32.toInt64 p2 &&& 63)))]) (q := []) at125_18 rfl rv125i_43 (jscut rfl rfl rfl (Nat.le_of_ble_eq_true rfl)) rfl (Nat.le_of_ble_eq_true rfl) rfl rfl))
theorem at125_21 : jm_at 125 21 = some (.lreturn) := by decide +kernel
theorem u125_21 {S : Option (Nat × (Nat → Int32))} {H : jm_H} {Q : Option Value → jm_H → Prop} {r0 : Nat} {x1 : Int32} {q0 : Int64} : jm_w S 4 125 21 [.ref r0, .int x1] [.long q0] H Q = Q (some (.long q0)) H := jsret_l at125_21 rfl
theorem en125 {S : Option (Nat × (Nat → Int32))} {H : jm_H} {Q : Option Value → jm_H → Prop} {r0 : Nat} {x1 : Int32} : jm_c S 125 [.ref r0, .int x1] H Q = jm_w S 4 125 0 [.ref r0, .int x1] [] H Q := rfl
theorem at126_0 : jm_at 126 0 = some (.aload_n 0) := by decide +kernel
theorem at126_1 : jm_at 126 1 = some (.getfield 26) := by decide +kernel
theorem rv126g_26 : jm_rv 126 (.getfield 26) = (0, 2, 2, 0) := by decide +kernel
theorem at126_4 : jm_at 126 4 = some (.i2l) := by decide +kernel
theorem at126_5 : jm_at 126 5 = some (.aload_n 0) := by decide +kernel
theorem at126_6 : jm_at 126 6 = some (.getfield 30) := by decide +kernel
theorem rv126g_30 : jm_rv 126 (.getfield 30) = (0, 2, 3, 0) := by decide +kernel
theorem at126_9 : jm_at 126 9 = some (.iconst 0) := by decide +kernel
theorem at126_10 : jm_at 126 10 = some (.aload_n 0) := by decide +kernel
theorem at126_11 : jm_at 126 11 = some (.getfield 34) := by decide +kernel
theorem rv126g_34 : jm_rv 126 (.getfield 34) = (0, 2, 4, 0) := by decide +kernel
theorem at126_14 : jm_at 126 14 = some (.bipush 48) := by decide +kernel
theorem at126_16 : jm_at 126 16 = some (.invokestatic 85) := by decide +kernel
theorem rv126i_85 : jm_rv 126 (.invokestatic 85) = (1, 57, 0, 0) := by decide +kernel
theorem u126_0 {S : Option (Nat × (Nat → Int32))} {H : jm_H} {Q : Option Value → jm_H → Prop} {r0 : Nat} (h0 : jm_tg H r0 = 3) : jm_w S 2 126 0 [.ref r0] [] H Q = jm_c S 57 [.int (jm_I H r0 4), .int (48 : Int32)] H (fun v G => jm_w S 2 126 19 [.ref r0] (v.toList ++ [.int (0 : Int32), .long (jm_L H r0 3), .long (Int32.toInt64 (jm_I H r0 2))]) G Q) := (js1 at126_0 rfl rfl rfl).trans ((jsgI (H := H) at126_1 rv126g_26 (Or.inl rfl) h0 rfl).trans ((js0 at126_4 rfl rfl rfl).trans ((js1 at126_5 rfl rfl rfl).trans ((jsgL (H := H) at126_6 rv126g_30 rfl h0 rfl).trans ((jsci at126_9 rfl rfl).trans ((js1 at126_10 rfl rfl rfl).trans ((jsgI (H := H) at126_11 rv126g_34 (Or.inl rfl) h0 rfl).trans ((jscb at126_14 rfl rfl).trans (jscall (H := H) (as := [.int (jm_I H r0 4), .int (48 : Int32)]) (q := [.int (0 : Int32), .long (jm_L H r0 3), .long (Int32.toInt64 (jm_I H r0 2))]) at126_16 rfl rv126i_85 (jscut rfl rfl rfl (Nat.le_of_ble_eq_true rfl)) rfl (Nat.le_of_ble_eq_true rfl) rfl rfl)))))))))
theorem at126_19 : jm_at 126 19 = some (.invokestatic 109) := by decide +kernel
theorem rv126i_109 : jm_rv 126 (.invokestatic 109) = (1, 74, 0, 0) := by decide +kernel
theorem u126_19 {S : Option (Nat × (Nat → Int32))} {H : jm_H} {Q : Option Value → jm_H → Prop} {r0 : Nat} {q0 q1 : Int64} {p2 p3 : Int32} : jm_w S 2 126 19 [.ref r0] [.int p3, .int p2, .long q1, .long q0] H Q = jm_c S 74 [.int p2, .int p3] H (fun v G => jm_w S 2 126 22 [.ref r0] (v.toList ++ [.long q1, .long q0]) G Q) := jscall (H := H) (as := [.int p2, .int p3]) (q := [.long q1, .long q0]) at126_19 rfl rv126i_109 (jscut rfl rfl rfl (Nat.le_of_ble_eq_true rfl)) rfl (Nat.le_of_ble_eq_true rfl) rfl rfl
theorem at126_22 : jm_at 126 22 = some (.lshl) := by decide +kernel
theorem at126_23 : jm_at 126 23 = some (.lmul) := by decide +kernel
theorem at126_24 : jm_at 126 24 = some (.lreturn) := by decide +kernel
theorem u126_22 {S : Option (Nat × (Nat → Int32))} {H : jm_H} {Q : Option Value → jm_H → Prop} {r0 : Nat} {q0 q1 : Int64} {p2 : Int32} : jm_w S 2 126 22 [.ref r0] [.int p2, .long q1, .long q0] H Q = Q (some (.long (q0 * (q1 <<< (Int32.toInt64 p2 &&& 63))))) H := (js0 at126_22 rfl rfl rfl).trans ((js0 at126_23 rfl rfl rfl).trans (jsret_l at126_24 rfl))
theorem en126 {S : Option (Nat × (Nat → Int32))} {H : jm_H} {Q : Option Value → jm_H → Prop} {r0 : Nat} : jm_c S 126 [.ref r0] H Q = jm_w S 2 126 0 [.ref r0] [] H Q := rfl
theorem at127_0 : jm_at 127 0 = some (.aload_n 0) := by decide +kernel
theorem at127_1 : jm_at 127 1 = some (.invokevirtual 112) := by decide +kernel
theorem rv127i_112 : jm_rv 127 (.invokevirtual 112) = (2, 128, 0, 0) := by decide +kernel
theorem u127_0 {S : Option (Nat × (Nat → Int32))} {H : jm_H} {Q : Option Value → jm_H → Prop} {r0 : Nat} {x1 : Int32} (h0 : jm_tg H r0 = 3) : jm_w S 3 127 0 [.ref r0, .int x1, .null, .null, .null, .null, .null, .null, .null] [] H Q = jm_c S 128 [.ref r0] H (fun v G => jm_w S 3 127 4 [.ref r0, .int x1, .null, .null, .null, .null, .null, .null, .null] (v.toList ++ []) G Q) := (js1 at127_0 rfl rfl rfl).trans (jscall (H := H) (as := [.ref r0]) (q := []) at127_1 rfl rv127i_112 (jscutV rfl rfl rfl (Nat.le_of_ble_eq_true rfl) rfl h0) rfl (Nat.le_of_ble_eq_true rfl) rfl rfl)
theorem at127_4 : jm_at 127 4 = some (.istore_n 2) := by decide +kernel
theorem at127_5 : jm_at 127 5 = some (.aload_n 0) := by decide +kernel
theorem at127_6 : jm_at 127 6 = some (.invokevirtual 115) := by decide +kernel
theorem rv127i_115 : jm_rv 127 (.invokevirtual 115) = (2, 126, 0, 0) := by decide +kernel
theorem u127_4 {S : Option (Nat × (Nat → Int32))} {H : jm_H} {Q : Option Value → jm_H → Prop} {r0 : Nat} {x1 p0 : Int32} (h0 : jm_tg H r0 = 3) : jm_w S 3 127 4 [.ref r0, .int x1, .null, .null, .null, .null, .null, .null, .null] [.int p0] H Q = jm_c S 126 [.ref r0] H (fun v G => jm_w S 3 127 9 [.ref r0, .int x1, .int p0, .null, .null, .null, .null, .null, .null] (v.toList ++ []) G Q) := (js1 at127_4 rfl rfl rfl).trans ((js1 at127_5 rfl rfl rfl).trans (jscall (H := H) (as := [.ref r0]) (q := []) at127_6 rfl rv127i_115 (jscutV rfl rfl rfl (Nat.le_of_ble_eq_true rfl) rfl h0) rfl (Nat.le_of_ble_eq_true rfl) rfl rfl))
theorem at127_9 : jm_at 127 9 = some (.iload_n 1) := by decide +kernel
theorem at127_10 : jm_at 127 10 = some (.i2l) := by decide +kernel
theorem at127_11 : jm_at 127 11 = some (.lmul) := by decide +kernel
theorem at127_12 : jm_at 127 12 = some (.lstore_n 3) := by decide +kernel
theorem at127_13 : jm_at 127 13 = some (.lload_n 3) := by decide +kernel
theorem at127_14 : jm_at 127 14 = some (.iload_n 2) := by decide +kernel
theorem at127_15 : jm_at 127 15 = some (.lshr) := by decide +kernel
theorem at127_16 : jm_at 127 16 = some (.lstore 5) := by decide +kernel
theorem at127_18 : jm_at 127 18 = some (.lload_n 3) := by decide +kernel
theorem at127_19 : jm_at 127 19 = some (.lload 5) := by decide +kernel
theorem at127_21 : jm_at 127 21 = some (.iload_n 2) := by decide +kernel
theorem at127_22 : jm_at 127 22 = some (.lshl) := by decide +kernel
theorem at127_23 : jm_at 127 23 = some (.lsub) := by decide +kernel
theorem at127_24 : jm_at 127 24 = some (.lstore 7) := by decide +kernel
theorem at127_26 : jm_at 127 26 = some (.lload 7) := by decide +kernel
theorem at127_28 : jm_at 127 28 = some (.lconst 1) := by decide +kernel
theorem at127_29 : jm_at 127 29 = some (.iload_n 2) := by decide +kernel
theorem at127_30 : jm_at 127 30 = some (.lshl) := by decide +kernel
theorem at127_31 : jm_at 127 31 = some (.lload 7) := by decide +kernel
theorem at127_33 : jm_at 127 33 = some (.lsub) := by decide +kernel
theorem at127_34 : jm_at 127 34 = some (.lcmp) := by decide +kernel
theorem at127_35 : jm_at 127 35 = some (.ifCond .le 10) := by decide +kernel
theorem u127_9 {S : Option (Nat × (Nat → Int32))} {H : jm_H} {Q : Option Value → jm_H → Prop} {r0 : Nat} {x1 x2 : Int32} {q0 : Int64} : jm_w S 3 127 9 [.ref r0, .int x1, .int x2, .null, .null, .null, .null, .null, .null] [.long q0] H Q = if (lg_cmp ((q0 * (Int32.toInt64 x1)) - (((q0 * (Int32.toInt64 x1)) >>> (Int32.toInt64 x2 &&& 63)) <<< (Int32.toInt64 x2 &&& 63))) (((1 : Int64) <<< (Int32.toInt64 x2 &&& 63)) - ((q0 * (Int32.toInt64 x1)) - (((q0 * (Int32.toInt64 x1)) >>> (Int32.toInt64 x2 &&& 63)) <<< (Int32.toInt64 x2 &&& 63))))) ≤ 0 then jm_w S 3 127 45 [.ref r0, .int x1, .int x2, .long (q0 * (Int32.toInt64 x1)), .null, .long ((q0 * (Int32.toInt64 x1)) >>> (Int32.toInt64 x2 &&& 63)), .null, .long ((q0 * (Int32.toInt64 x1)) - (((q0 * (Int32.toInt64 x1)) >>> (Int32.toInt64 x2 &&& 63)) <<< (Int32.toInt64 x2 &&& 63))), .null] [] H Q else jm_w S 3 127 38 [.ref r0, .int x1, .int x2, .long (q0 * (Int32.toInt64 x1)), .null, .long ((q0 * (Int32.toInt64 x1)) >>> (Int32.toInt64 x2 &&& 63)), .null, .long ((q0 * (Int32.toInt64 x1)) - (((q0 * (Int32.toInt64 x1)) >>> (Int32.toInt64 x2 &&& 63)) <<< (Int32.toInt64 x2 &&& 63))), .null] [] H Q := (js1 at127_9 rfl rfl rfl).trans ((js0 at127_10 rfl rfl rfl).trans ((js0 at127_11 rfl rfl rfl).trans ((js1 at127_12 rfl rfl rfl).trans ((js1 at127_13 rfl rfl rfl).trans ((js1 at127_14 rfl rfl rfl).trans ((js0 at127_15 rfl rfl rfl).trans ((js1 at127_16 rfl rfl rfl).trans ((js1 at127_18 rfl rfl rfl).trans ((js1 at127_19 rfl rfl rfl).trans ((js1 at127_21 rfl rfl rfl).trans ((js0 at127_22 rfl rfl rfl).trans ((js0 at127_23 rfl rfl rfl).trans ((js1 at127_24 rfl rfl rfl).trans ((js1 at127_26 rfl rfl rfl).trans ((jscl at127_28 rfl rfl).trans ((js1 at127_29 rfl rfl rfl).trans ((js0 at127_30 rfl rfl rfl).trans ((js1 at127_31 rfl rfl rfl).trans ((js0 at127_33 rfl rfl rfl).trans ((js0 at127_34 rfl rfl rfl).trans (jsif (P := (lg_cmp ((q0 * (Int32.toInt64 x1)) - (((q0 * (Int32.toInt64 x1)) >>> (Int32.toInt64 x2 &&& 63)) <<< (Int32.toInt64 x2 &&& 63))) (((1 : Int64) <<< (Int32.toInt64 x2 &&& 63)) - ((q0 * (Int32.toInt64 x1)) - (((q0 * (Int32.toInt64 x1)) >>> (Int32.toInt64 x2 &&& 63)) <<< (Int32.toInt64 x2 &&& 63))))) ≤ 0) at127_35 rfl rfl)))))))))))))))))))))
theorem at127_38 : jm_at 127 38 = some (.lload 5) := by decide +kernel
theorem at127_40 : jm_at 127 40 = some (.lconst 1) := by decide +kernel
theorem at127_41 : jm_at 127 41 = some (.ladd) := by decide +kernel
theorem at127_42 : jm_at 127 42 = some (.goto 5) := by decide +kernel
theorem u127_38 {S : Option (Nat × (Nat → Int32))} {H : jm_H} {Q : Option Value → jm_H → Prop} {r0 : Nat} {x1 x2 : Int32} {y3 y5 y7 : Int64} : jm_w S 3 127 38 [.ref r0, .int x1, .int x2, .long y3, .null, .long y5, .null, .long y7, .null] [] H Q = jm_w S 3 127 47 [.ref r0, .int x1, .int x2, .long y3, .null, .long y5, .null, .long y7, .null] [.long (y5 + (1 : Int64))] H Q := (js1 at127_38 rfl rfl rfl).trans ((jscl at127_40 rfl rfl).trans ((js0 at127_41 rfl rfl rfl).trans (js2 at127_42 rfl rfl)))
theorem at127_45 : jm_at 127 45 = some (.lload 5) := by decide +kernel
theorem u127_45 {S : Option (Nat × (Nat → Int32))} {H : jm_H} {Q : Option Value → jm_H → Prop} {r0 : Nat} {x1 x2 : Int32} {y3 y5 y7 : Int64} : jm_w S 3 127 45 [.ref r0, .int x1, .int x2, .long y3, .null, .long y5, .null, .long y7, .null] [] H Q = jm_w S 3 127 47 [.ref r0, .int x1, .int x2, .long y3, .null, .long y5, .null, .long y7, .null] [.long y5] H Q := js1 at127_45 rfl rfl rfl
theorem at127_47 : jm_at 127 47 = some (.lreturn) := by decide +kernel
theorem u127_47 {S : Option (Nat × (Nat → Int32))} {H : jm_H} {Q : Option Value → jm_H → Prop} {r0 : Nat} {x1 x2 : Int32} {y3 y5 y7 q0 : Int64} : jm_w S 3 127 47 [.ref r0, .int x1, .int x2, .long y3, .null, .long y5, .null, .long y7, .null] [.long q0] H Q = Q (some (.long q0)) H := jsret_l at127_47 rfl
theorem en127 {S : Option (Nat × (Nat → Int32))} {H : jm_H} {Q : Option Value → jm_H → Prop} {r0 : Nat} {x1 : Int32} : jm_c S 127 [.ref r0, .int x1] H Q = jm_w S 3 127 0 [.ref r0, .int x1, .null, .null, .null, .null, .null, .null, .null] [] H Q := rfl
theorem at128_0 : jm_at 128 0 = some (.iconst 0) := by decide +kernel
theorem at128_1 : jm_at 128 1 = some (.aload_n 0) := by decide +kernel
theorem at128_2 : jm_at 128 2 = some (.getfield 34) := by decide +kernel
theorem rv128g_34 : jm_rv 128 (.getfield 34) = (0, 2, 4, 0) := by decide +kernel
theorem at128_5 : jm_at 128 5 = some (.ineg) := by decide +kernel
theorem at128_6 : jm_at 128 6 = some (.bipush 48) := by decide +kernel
theorem at128_8 : jm_at 128 8 = some (.invokestatic 85) := by decide +kernel
theorem rv128i_85 : jm_rv 128 (.invokestatic 85) = (1, 57, 0, 0) := by decide +kernel
theorem u128_0 {S : Option (Nat × (Nat → Int32))} {H : jm_H} {Q : Option Value → jm_H → Prop} {r0 : Nat} (h0 : jm_tg H r0 = 3) : jm_w S 2 128 0 [.ref r0] [] H Q = jm_c S 57 [.int (-(jm_I H r0 4)), .int (48 : Int32)] H (fun v G => jm_w S 2 128 11 [.ref r0] (v.toList ++ [.int (0 : Int32)]) G Q) := (jsci at128_0 rfl rfl).trans ((js1 at128_1 rfl rfl rfl).trans ((jsgI (H := H) at128_2 rv128g_34 (Or.inl rfl) h0 rfl).trans ((js0 at128_5 rfl rfl rfl).trans ((jscb at128_6 rfl rfl).trans (jscall (H := H) (as := [.int (-(jm_I H r0 4)), .int (48 : Int32)]) (q := [.int (0 : Int32)]) at128_8 rfl rv128i_85 (jscut rfl rfl rfl (Nat.le_of_ble_eq_true rfl)) rfl (Nat.le_of_ble_eq_true rfl) rfl rfl)))))
theorem at128_11 : jm_at 128 11 = some (.invokestatic 109) := by decide +kernel
theorem rv128i_109 : jm_rv 128 (.invokestatic 109) = (1, 74, 0, 0) := by decide +kernel
theorem u128_11 {S : Option (Nat × (Nat → Int32))} {H : jm_H} {Q : Option Value → jm_H → Prop} {r0 : Nat} {p0 p1 : Int32} : jm_w S 2 128 11 [.ref r0] [.int p1, .int p0] H Q = jm_c S 74 [.int p0, .int p1] H (fun v G => jm_w S 2 128 14 [.ref r0] (v.toList ++ []) G Q) := jscall (H := H) (as := [.int p0, .int p1]) (q := []) at128_11 rfl rv128i_109 (jscut rfl rfl rfl (Nat.le_of_ble_eq_true rfl)) rfl (Nat.le_of_ble_eq_true rfl) rfl rfl
theorem at128_14 : jm_at 128 14 = some (.ireturn) := by decide +kernel
theorem u128_14 {S : Option (Nat × (Nat → Int32))} {H : jm_H} {Q : Option Value → jm_H → Prop} {r0 : Nat} {p0 : Int32} : jm_w S 2 128 14 [.ref r0] [.int p0] H Q = Q (some (.int p0)) H := jsret_i at128_14 rfl
theorem en128 {S : Option (Nat × (Nat → Int32))} {H : jm_H} {Q : Option Value → jm_H → Prop} {r0 : Nat} : jm_c S 128 [.ref r0] H Q = jm_w S 2 128 0 [.ref r0] [] H Q := rfl
theorem at44_0 : jm_at 44 0 = some (.aload_n 0) := by decide +kernel
theorem at44_1 : jm_at 44 1 = some (.getfield 21) := by decide +kernel
theorem rv44g_21 : jm_rv 44 (.getfield 21) = (0, 3, 2, 0) := by decide +kernel
theorem at44_4 : jm_at 44 4 = some (.iload_n 3) := by decide +kernel
theorem at44_5 : jm_at 44 5 = some (.invokevirtual 48) := by decide +kernel
theorem rv44i_48 : jm_rv 44 (.invokevirtual 48) = (2, 45, 0, 0) := by decide +kernel
theorem u44_0 {S : Option (Nat × (Nat → Int32))} {H : jm_H} {Q : Option Value → jm_H → Prop} {r0 : Nat} {x1 x2 x3 : Int32} (h0 : jm_tg H r0 = 4) (h1 : ¬ jm_R H r0 2 = 0) (h2 : jm_tg H (jm_R H r0 2) = 3) : jm_w S 6 44 0 [.ref r0, .int x1, .int x2, .int x3] [] H Q = jm_c S 45 [.ref (jm_R H r0 2), .int x3] H (fun v G => jm_w S 6 44 8 [.ref r0, .int x1, .int x2, .int x3] (v.toList ++ []) G Q) := (js1 at44_0 rfl rfl rfl).trans ((jsgR (H := H) at44_1 rv44g_21 rfl h0 h1 rfl).trans ((js1 at44_4 rfl rfl rfl).trans (jscall (H := H) (as := [.ref (jm_R H r0 2), .int x3]) (q := []) at44_5 rfl rv44i_48 (jscutV rfl rfl rfl (Nat.le_of_ble_eq_true rfl) rfl h2) rfl (Nat.le_of_ble_eq_true rfl) rfl rfl)))
theorem at44_8 : jm_at 44 8 = some (.aload_n 0) := by decide +kernel
theorem at44_9 : jm_at 44 9 = some (.iload_n 1) := by decide +kernel
theorem at44_10 : jm_at 44 10 = some (.iload_n 2) := by decide +kernel
theorem at44_11 : jm_at 44 11 = some (.aload_n 0) := by decide +kernel
theorem at44_12 : jm_at 44 12 = some (.getfield 21) := by decide +kernel
theorem at44_15 : jm_at 44 15 = some (.invokevirtual 41) := by decide +kernel
theorem rv44i_41 : jm_rv 44 (.invokevirtual 41) = (2, 49, 0, 0) := by decide +kernel
theorem u44_8 {S : Option (Nat × (Nat → Int32))} {H : jm_H} {Q : Option Value → jm_H → Prop} {r0 : Nat} {x1 x2 x3 : Int32} (h0 : jm_tg H r0 = 4) (h1 : ¬ jm_R H r0 2 = 0) : jm_w S 6 44 8 [.ref r0, .int x1, .int x2, .int x3] [] H Q = jm_c S 49 [.ref r0, .int x1, .int x2, .ref (jm_R H r0 2)] H (fun v G => jm_w S 6 44 18 [.ref r0, .int x1, .int x2, .int x3] (v.toList ++ []) G Q) := (js1 at44_8 rfl rfl rfl).trans ((js1 at44_9 rfl rfl rfl).trans ((js1 at44_10 rfl rfl rfl).trans ((js1 at44_11 rfl rfl rfl).trans ((jsgR (H := H) at44_12 rv44g_21 rfl h0 h1 rfl).trans (jscall (H := H) (as := [.ref r0, .int x1, .int x2, .ref (jm_R H r0 2)]) (q := []) at44_15 rfl rv44i_41 (jscutV rfl rfl rfl (Nat.le_of_ble_eq_true rfl) rfl h0) rfl (Nat.le_of_ble_eq_true rfl) rfl rfl)))))
theorem at44_18 : jm_at 44 18 = some (.ireturn) := by decide +kernel
theorem u44_18 {S : Option (Nat × (Nat → Int32))} {H : jm_H} {Q : Option Value → jm_H → Prop} {r0 : Nat} {x1 x2 x3 p0 : Int32} : jm_w S 6 44 18 [.ref r0, .int x1, .int x2, .int x3] [.int p0] H Q = Q (some (.int p0)) H := jsret_i at44_18 rfl
theorem en44 {S : Option (Nat × (Nat → Int32))} {H : jm_H} {Q : Option Value → jm_H → Prop} {r0 : Nat} {x1 x2 x3 : Int32} : jm_c S 44 [.ref r0, .int x1, .int x2, .int x3] H Q = jm_w S 6 44 0 [.ref r0, .int x1, .int x2, .int x3] [] H Q := rfl
theorem at49_0 : jm_at 49 0 = some (.aload_n 3) := by decide +kernel
theorem at49_1 : jm_at 49 1 = some (.getfield 59) := by decide +kernel
theorem rv49g_59 : jm_rv 49 (.getfield 59) = (0, 2, 1, 0) := by decide +kernel
theorem at49_4 : jm_at 49 4 = some (.ifCond .eq 14) := by decide +kernel
theorem u49_0 {S : Option (Nat × (Nat → Int32))} {H : jm_H} {Q : Option Value → jm_H → Prop} {r0 r3 : Nat} {x1 x2 : Int32} (h0 : jm_tg H r3 = 3) : jm_w S 5 49 0 [.ref r0, .int x1, .int x2, .ref r3, .null] [] H Q = if (jm_I H r3 1) = 0 then jm_w S 5 49 18 [.ref r0, .int x1, .int x2, .ref r3, .null] [] H Q else jm_w S 5 49 7 [.ref r0, .int x1, .int x2, .ref r3, .null] [] H Q := (js1 at49_0 rfl rfl rfl).trans ((jsgI (H := H) at49_1 rv49g_59 (Or.inr rfl) h0 rfl).trans (jsif (P := (jm_I H r3 1) = 0) at49_4 rfl rfl))
theorem at49_7 : jm_at 49 7 = some (.aload_n 0) := by decide +kernel
theorem at49_8 : jm_at 49 8 = some (.bipush (-2)) := by decide +kernel
theorem at49_10 : jm_at 49 10 = some (.putfield 95) := by decide +kernel
theorem rv49p_95 : jm_rv 49 (.putfield 95) = (0, 3, 3, 0) := by decide +kernel
theorem at49_13 : jm_at 49 13 = some (.iload_n 1) := by decide +kernel
theorem at49_14 : jm_at 49 14 = some (.invokestatic 98) := by decide +kernel
theorem rv49i_98 : jm_rv 49 (.invokestatic 98) = (1, 50, 0, 0) := by decide +kernel
theorem u49_7 {S : Option (Nat × (Nat → Int32))} {H : jm_H} {Q : Option Value → jm_H → Prop} {r0 r3 : Nat} {x1 x2 : Int32} (h0 : jm_tg H r0 = 4) : jm_w S 5 49 7 [.ref r0, .int x1, .int x2, .ref r3, .null] [] H Q = jm_c S 50 [.int x1] (jm_pI H r0 3 (-2 : Int32)) (fun v G => jm_w S 5 49 17 [.ref r0, .int x1, .int x2, .ref r3, .null] (v.toList ++ []) G Q) := (js1 at49_7 rfl rfl rfl).trans ((jscb at49_8 rfl rfl).trans ((jspI (H := H) at49_10 rv49p_95 rfl h0 rfl).trans ((js1 at49_13 rfl rfl rfl).trans (jscall (H := (jm_pI H r0 3 (-2 : Int32))) (as := [.int x1]) (q := []) at49_14 rfl rv49i_98 (jscut rfl rfl rfl (Nat.le_of_ble_eq_true rfl)) rfl (Nat.le_of_ble_eq_true rfl) rfl rfl))))
theorem at49_17 : jm_at 49 17 = some (.ireturn) := by decide +kernel
theorem u49_17 {S : Option (Nat × (Nat → Int32))} {H : jm_H} {Q : Option Value → jm_H → Prop} {r0 r3 : Nat} {x1 x2 p0 : Int32} : jm_w S 5 49 17 [.ref r0, .int x1, .int x2, .ref r3, .null] [.int p0] H Q = Q (some (.int p0)) H := jsret_i at49_17 rfl
theorem at49_18 : jm_at 49 18 = some (.aload_n 3) := by decide +kernel
theorem at49_19 : jm_at 49 19 = some (.getfield 31) := by decide +kernel
theorem rv49g_31 : jm_rv 49 (.getfield 31) = (0, 2, 2, 0) := by decide +kernel
theorem at49_22 : jm_at 49 22 = some (.ifCond .ne 10) := by decide +kernel
theorem u49_18 {S : Option (Nat × (Nat → Int32))} {H : jm_H} {Q : Option Value → jm_H → Prop} {r0 r3 : Nat} {x1 x2 : Int32} (h0 : jm_tg H r3 = 3) : jm_w S 5 49 18 [.ref r0, .int x1, .int x2, .ref r3, .null] [] H Q = if ¬ (jm_I H r3 2) = 0 then jm_w S 5 49 32 [.ref r0, .int x1, .int x2, .ref r3, .null] [] H Q else jm_w S 5 49 25 [.ref r0, .int x1, .int x2, .ref r3, .null] [] H Q := (js1 at49_18 rfl rfl rfl).trans ((jsgI (H := H) at49_19 rv49g_31 (Or.inl rfl) h0 rfl).trans (jsif (P := ¬ (jm_I H r3 2) = 0) at49_22 rfl rfl))
theorem at49_25 : jm_at 49 25 = some (.aload_n 0) := by decide +kernel
theorem at49_26 : jm_at 49 26 = some (.iconst 0) := by decide +kernel
theorem at49_27 : jm_at 49 27 = some (.putfield 95) := by decide +kernel
theorem at49_30 : jm_at 49 30 = some (.iconst 0) := by decide +kernel
theorem at49_31 : jm_at 49 31 = some (.ireturn) := by decide +kernel
theorem u49_25 {S : Option (Nat × (Nat → Int32))} {H : jm_H} {Q : Option Value → jm_H → Prop} {r0 r3 : Nat} {x1 x2 : Int32} (h0 : jm_tg H r0 = 4) : jm_w S 5 49 25 [.ref r0, .int x1, .int x2, .ref r3, .null] [] H Q = Q (some (.int (0 : Int32))) (jm_pI H r0 3 (0 : Int32)) := (js1 at49_25 rfl rfl rfl).trans ((jsci at49_26 rfl rfl).trans ((jspI (H := H) at49_27 rv49p_95 rfl h0 rfl).trans ((jsci at49_30 rfl rfl).trans (jsret_i at49_31 rfl))))
theorem at49_32 : jm_at 49 32 = some (.aload_n 0) := by decide +kernel
theorem at49_33 : jm_at 49 33 = some (.getfield 21) := by decide +kernel
theorem rv49g_21 : jm_rv 49 (.getfield 21) = (0, 3, 2, 0) := by decide +kernel
theorem at49_36 : jm_at 49 36 = some (.aload_n 3) := by decide +kernel
theorem at49_37 : jm_at 49 37 = some (.invokevirtual 55) := by decide +kernel
theorem rv49i_55 : jm_rv 49 (.invokevirtual 55) = (2, 51, 0, 0) := by decide +kernel
theorem u49_32 {S : Option (Nat × (Nat → Int32))} {H : jm_H} {Q : Option Value → jm_H → Prop} {r0 r3 : Nat} {x1 x2 : Int32} (h0 : jm_tg H r0 = 4) (h1 : ¬ jm_R H r0 2 = 0) (h2 : jm_tg H (jm_R H r0 2) = 3) : jm_w S 5 49 32 [.ref r0, .int x1, .int x2, .ref r3, .null] [] H Q = jm_c S 51 [.ref (jm_R H r0 2), .ref r3] H (fun v G => jm_w S 5 49 40 [.ref r0, .int x1, .int x2, .ref r3, .null] (v.toList ++ []) G Q) := (js1 at49_32 rfl rfl rfl).trans ((jsgR (H := H) at49_33 rv49g_21 rfl h0 h1 rfl).trans ((js1 at49_36 rfl rfl rfl).trans (jscall (H := H) (as := [.ref (jm_R H r0 2), .ref r3]) (q := []) at49_37 rfl rv49i_55 (jscutV rfl rfl rfl (Nat.le_of_ble_eq_true rfl) rfl h2) rfl (Nat.le_of_ble_eq_true rfl) rfl rfl)))
theorem at49_40 : jm_at 49 40 = some (.aload_n 0) := by decide +kernel
theorem at49_41 : jm_at 49 41 = some (.getfield 21) := by decide +kernel
theorem at49_44 : jm_at 49 44 = some (.invokevirtual 103) := by decide +kernel
theorem rv49i_103 : jm_rv 49 (.invokevirtual 103) = (2, 52, 0, 0) := by decide +kernel
theorem u49_40 {S : Option (Nat × (Nat → Int32))} {H : jm_H} {Q : Option Value → jm_H → Prop} {r0 r3 : Nat} {x1 x2 : Int32} (h0 : jm_tg H r0 = 4) (h1 : ¬ jm_R H r0 2 = 0) (h2 : jm_tg H (jm_R H r0 2) = 3) : jm_w S 5 49 40 [.ref r0, .int x1, .int x2, .ref r3, .null] [] H Q = jm_c S 52 [.ref (jm_R H r0 2)] H (fun v G => jm_w S 5 49 47 [.ref r0, .int x1, .int x2, .ref r3, .null] (v.toList ++ []) G Q) := (js1 at49_40 rfl rfl rfl).trans ((jsgR (H := H) at49_41 rv49g_21 rfl h0 h1 rfl).trans (jscall (H := H) (as := [.ref (jm_R H r0 2)]) (q := []) at49_44 rfl rv49i_103 (jscutV rfl rfl rfl (Nat.le_of_ble_eq_true rfl) rfl h2) rfl (Nat.le_of_ble_eq_true rfl) rfl rfl))
theorem at49_47 : jm_at 49 47 = some (.aload_n 0) := by decide +kernel
theorem at49_48 : jm_at 49 48 = some (.iload_n 1) := by decide +kernel
theorem at49_49 : jm_at 49 49 = some (.iload_n 2) := by decide +kernel
theorem at49_50 : jm_at 49 50 = some (.invokevirtual 106) := by decide +kernel
theorem rv49i_106 : jm_rv 49 (.invokevirtual 106) = (2, 58, 0, 0) := by decide +kernel
theorem u49_47 {S : Option (Nat × (Nat → Int32))} {H : jm_H} {Q : Option Value → jm_H → Prop} {r0 r3 : Nat} {x1 x2 : Int32} (h0 : jm_tg H r0 = 4) : jm_w S 5 49 47 [.ref r0, .int x1, .int x2, .ref r3, .null] [] H Q = jm_c S 58 [.ref r0, .int x1, .int x2] H (fun v G => jm_w S 5 49 53 [.ref r0, .int x1, .int x2, .ref r3, .null] (v.toList ++ []) G Q) := (js1 at49_47 rfl rfl rfl).trans ((js1 at49_48 rfl rfl rfl).trans ((js1 at49_49 rfl rfl rfl).trans (jscall (H := H) (as := [.ref r0, .int x1, .int x2]) (q := []) at49_50 rfl rv49i_106 (jscutV rfl rfl rfl (Nat.le_of_ble_eq_true rfl) rfl h0) rfl (Nat.le_of_ble_eq_true rfl) rfl rfl)))
theorem at49_53 : jm_at 49 53 = some (.istore 4) := by decide +kernel
theorem at49_55 : jm_at 49 55 = some (.aload_n 3) := by decide +kernel
theorem at49_56 : jm_at 49 56 = some (.getfield 31) := by decide +kernel
theorem at49_59 : jm_at 49 59 = some (.ifCond .le 6) := by decide +kernel
theorem u49_53 {S : Option (Nat × (Nat → Int32))} {H : jm_H} {Q : Option Value → jm_H → Prop} {r0 r3 : Nat} {x1 x2 p0 : Int32} (h0 : jm_tg H r3 = 3) : jm_w S 5 49 53 [.ref r0, .int x1, .int x2, .ref r3, .null] [.int p0] H Q = if (jm_I H r3 2) ≤ 0 then jm_w S 5 49 65 [.ref r0, .int x1, .int x2, .ref r3, .int p0] [] H Q else jm_w S 5 49 62 [.ref r0, .int x1, .int x2, .ref r3, .int p0] [] H Q := (js1 at49_53 rfl rfl rfl).trans ((js1 at49_55 rfl rfl rfl).trans ((jsgI (H := H) at49_56 rv49g_31 (Or.inl rfl) h0 rfl).trans (jsif (P := (jm_I H r3 2) ≤ 0) at49_59 rfl rfl)))
theorem at49_62 : jm_at 49 62 = some (.iload 4) := by decide +kernel
theorem at49_64 : jm_at 49 64 = some (.ireturn) := by decide +kernel
theorem u49_62 {S : Option (Nat × (Nat → Int32))} {H : jm_H} {Q : Option Value → jm_H → Prop} {r0 r3 : Nat} {x1 x2 x4 : Int32} : jm_w S 5 49 62 [.ref r0, .int x1, .int x2, .ref r3, .int x4] [] H Q = Q (some (.int x4)) H := (js1 at49_62 rfl rfl rfl).trans (jsret_i at49_64 rfl)
theorem at49_65 : jm_at 49 65 = some (.aload_n 0) := by decide +kernel
theorem at49_66 : jm_at 49 66 = some (.aload_n 0) := by decide +kernel
theorem at49_67 : jm_at 49 67 = some (.getfield 95) := by decide +kernel
theorem rv49g_95 : jm_rv 49 (.getfield 95) = (0, 3, 3, 0) := by decide +kernel
theorem at49_70 : jm_at 49 70 = some (.ineg) := by decide +kernel
theorem at49_71 : jm_at 49 71 = some (.putfield 95) := by decide +kernel
theorem at49_74 : jm_at 49 74 = some (.iload_n 1) := by decide +kernel
theorem at49_75 : jm_at 49 75 = some (.iload 4) := by decide +kernel
theorem at49_77 : jm_at 49 77 = some (.invokestatic 110) := by decide +kernel
theorem rv49i_110 : jm_rv 49 (.invokestatic 110) = (1, 64, 0, 0) := by decide +kernel
theorem u49_65 {S : Option (Nat × (Nat → Int32))} {H : jm_H} {Q : Option Value → jm_H → Prop} {r0 r3 : Nat} {x1 x2 x4 : Int32} (h0 : jm_tg H r0 = 4) : jm_w S 5 49 65 [.ref r0, .int x1, .int x2, .ref r3, .int x4] [] H Q = jm_c S 64 [.int x1, .int x4] (jm_pI H r0 3 (-(jm_I H r0 3))) (fun v G => jm_w S 5 49 80 [.ref r0, .int x1, .int x2, .ref r3, .int x4] (v.toList ++ []) G Q) := (js1 at49_65 rfl rfl rfl).trans ((js1 at49_66 rfl rfl rfl).trans ((jsgI (H := H) at49_67 rv49g_95 (Or.inl rfl) h0 rfl).trans ((js0 at49_70 rfl rfl rfl).trans ((jspI (H := H) at49_71 rv49p_95 rfl h0 rfl).trans ((js1 at49_74 rfl rfl rfl).trans ((js1 at49_75 rfl rfl rfl).trans (jscall (H := (jm_pI H r0 3 (-(jm_I H r0 3)))) (as := [.int x1, .int x4]) (q := []) at49_77 rfl rv49i_110 (jscut rfl rfl rfl (Nat.le_of_ble_eq_true rfl)) rfl (Nat.le_of_ble_eq_true rfl) rfl rfl)))))))
theorem at49_80 : jm_at 49 80 = some (.ireturn) := by decide +kernel
theorem u49_80 {S : Option (Nat × (Nat → Int32))} {H : jm_H} {Q : Option Value → jm_H → Prop} {r0 r3 : Nat} {x1 x2 x4 p0 : Int32} : jm_w S 5 49 80 [.ref r0, .int x1, .int x2, .ref r3, .int x4] [.int p0] H Q = Q (some (.int p0)) H := jsret_i at49_80 rfl
theorem en49 {S : Option (Nat × (Nat → Int32))} {H : jm_H} {Q : Option Value → jm_H → Prop} {r0 r3 : Nat} {x1 x2 : Int32} : jm_c S 49 [.ref r0, .int x1, .int x2, .ref r3] H Q = jm_w S 5 49 0 [.ref r0, .int x1, .int x2, .ref r3, .null] [] H Q := rfl
theorem at58_0 : jm_at 58 0 = some (.iload_n 1) := by decide +kernel
theorem at58_1 : jm_at 58 1 = some (.iconst 2) := by decide +kernel
theorem at58_2 : jm_at 58 2 = some (.isub) := by decide +kernel
theorem at58_3 : jm_at 58 3 = some (.iload_n 2) := by decide +kernel
theorem at58_4 : jm_at 58 4 = some (.ishl) := by decide +kernel
theorem at58_5 : jm_at 58 5 = some (.istore_n 3) := by decide +kernel
theorem at58_6 : jm_at 58 6 = some (.aload_n 0) := by decide +kernel
theorem at58_7 : jm_at 58 7 = some (.getfield 21) := by decide +kernel
theorem rv58g_21 : jm_rv 58 (.getfield 21) = (0, 3, 2, 0) := by decide +kernel
theorem at58_10 : jm_at 58 10 = some (.invokevirtual 66) := by decide +kernel
theorem rv58i_66 : jm_rv 58 (.invokevirtual 66) = (2, 59, 0, 0) := by decide +kernel
theorem u58_0 {S : Option (Nat × (Nat → Int32))} {H : jm_H} {Q : Option Value → jm_H → Prop} {r0 : Nat} {x1 x2 : Int32} (h0 : jm_tg H r0 = 4) (h1 : ¬ jm_R H r0 2 = 0) (h2 : jm_tg H (jm_R H r0 2) = 3) : jm_w S 4 58 0 [.ref r0, .int x1, .int x2, .null, .null, .null, .null, .null] [] H Q = jm_c S 59 [.ref (jm_R H r0 2)] H (fun v G => jm_w S 4 58 13 [.ref r0, .int x1, .int x2, .int ((x1 - (2 : Int32)) <<< (x2 &&& 31)), .null, .null, .null, .null] (v.toList ++ []) G Q) := (js1 at58_0 rfl rfl rfl).trans ((jsci at58_1 rfl rfl).trans ((js0 at58_2 rfl rfl rfl).trans ((js1 at58_3 rfl rfl rfl).trans ((js0 at58_4 rfl rfl rfl).trans ((js1 at58_5 rfl rfl rfl).trans ((js1 at58_6 rfl rfl rfl).trans ((jsgR (H := H) at58_7 rv58g_21 rfl h0 h1 rfl).trans (jscall (H := H) (as := [.ref (jm_R H r0 2)]) (q := []) at58_10 rfl rv58i_66 (jscutV rfl rfl rfl (Nat.le_of_ble_eq_true rfl) rfl h2) rfl (Nat.le_of_ble_eq_true rfl) rfl rfl))))))))
theorem at58_13 : jm_at 58 13 = some (.istore 4) := by decide +kernel
theorem at58_15 : jm_at 58 15 = some (.iload 4) := by decide +kernel
theorem at58_17 : jm_at 58 17 = some (.iload_n 3) := by decide +kernel
theorem at58_18 : jm_at 58 18 = some (.if_icmp .le 13) := by decide +kernel
theorem u58_13 {S : Option (Nat × (Nat → Int32))} {H : jm_H} {Q : Option Value → jm_H → Prop} {r0 : Nat} {x1 x2 x3 p0 : Int32} : jm_w S 4 58 13 [.ref r0, .int x1, .int x2, .int x3, .null, .null, .null, .null] [.int p0] H Q = if p0 ≤ x3 then jm_w S 4 58 31 [.ref r0, .int x1, .int x2, .int x3, .int p0, .null, .null, .null] [] H Q else jm_w S 4 58 21 [.ref r0, .int x1, .int x2, .int x3, .int p0, .null, .null, .null] [] H Q := (js1 at58_13 rfl rfl rfl).trans ((js1 at58_15 rfl rfl rfl).trans ((js1 at58_17 rfl rfl rfl).trans (jsif (P := p0 ≤ x3) at58_18 rfl rfl)))
theorem at58_21 : jm_at 58 21 = some (.aload_n 0) := by decide +kernel
theorem at58_22 : jm_at 58 22 = some (.iconst (-1)) := by decide +kernel
theorem at58_23 : jm_at 58 23 = some (.putfield 95) := by decide +kernel
theorem rv58p_95 : jm_rv 58 (.putfield 95) = (0, 3, 3, 0) := by decide +kernel
theorem at58_26 : jm_at 58 26 = some (.iload_n 1) := by decide +kernel
theorem at58_27 : jm_at 58 27 = some (.invokestatic 113) := by decide +kernel
theorem rv58i_113 : jm_rv 58 (.invokestatic 113) = (1, 60, 0, 0) := by decide +kernel
theorem u58_21 {S : Option (Nat × (Nat → Int32))} {H : jm_H} {Q : Option Value → jm_H → Prop} {r0 : Nat} {x1 x2 x3 x4 : Int32} (h0 : jm_tg H r0 = 4) : jm_w S 4 58 21 [.ref r0, .int x1, .int x2, .int x3, .int x4, .null, .null, .null] [] H Q = jm_c S 60 [.int x1] (jm_pI H r0 3 (-1 : Int32)) (fun v G => jm_w S 4 58 30 [.ref r0, .int x1, .int x2, .int x3, .int x4, .null, .null, .null] (v.toList ++ []) G Q) := (js1 at58_21 rfl rfl rfl).trans ((jsci at58_22 rfl rfl).trans ((jspI (H := H) at58_23 rv58p_95 rfl h0 rfl).trans ((js1 at58_26 rfl rfl rfl).trans (jscall (H := (jm_pI H r0 3 (-1 : Int32))) (as := [.int x1]) (q := []) at58_27 rfl rv58i_113 (jscut rfl rfl rfl (Nat.le_of_ble_eq_true rfl)) rfl (Nat.le_of_ble_eq_true rfl) rfl rfl))))
theorem at58_30 : jm_at 58 30 = some (.ireturn) := by decide +kernel
theorem u58_30 {S : Option (Nat × (Nat → Int32))} {H : jm_H} {Q : Option Value → jm_H → Prop} {r0 : Nat} {x1 x2 x3 x4 p0 : Int32} : jm_w S 4 58 30 [.ref r0, .int x1, .int x2, .int x3, .int x4, .null, .null, .null] [.int p0] H Q = Q (some (.int p0)) H := jsret_i at58_30 rfl
theorem at58_31 : jm_at 58 31 = some (.iload 4) := by decide +kernel
theorem at58_33 : jm_at 58 33 = some (.iload_n 3) := by decide +kernel
theorem at58_34 : jm_at 58 34 = some (.ineg) := by decide +kernel
theorem at58_35 : jm_at 58 35 = some (.if_icmp .ge 10) := by decide +kernel
theorem u58_31 {S : Option (Nat × (Nat → Int32))} {H : jm_H} {Q : Option Value → jm_H → Prop} {r0 : Nat} {x1 x2 x3 x4 : Int32} : jm_w S 4 58 31 [.ref r0, .int x1, .int x2, .int x3, .int x4, .null, .null, .null] [] H Q = if (-x3) ≤ x4 then jm_w S 4 58 45 [.ref r0, .int x1, .int x2, .int x3, .int x4, .null, .null, .null] [] H Q else jm_w S 4 58 38 [.ref r0, .int x1, .int x2, .int x3, .int x4, .null, .null, .null] [] H Q := (js1 at58_31 rfl rfl rfl).trans ((js1 at58_33 rfl rfl rfl).trans ((js0 at58_34 rfl rfl rfl).trans (jsif (P := (-x3) ≤ x4) at58_35 rfl rfl)))
theorem at58_38 : jm_at 58 38 = some (.aload_n 0) := by decide +kernel
theorem at58_39 : jm_at 58 39 = some (.iconst 1) := by decide +kernel
theorem at58_40 : jm_at 58 40 = some (.putfield 95) := by decide +kernel
theorem at58_43 : jm_at 58 43 = some (.iconst 1) := by decide +kernel
theorem at58_44 : jm_at 58 44 = some (.ireturn) := by decide +kernel
theorem u58_38 {S : Option (Nat × (Nat → Int32))} {H : jm_H} {Q : Option Value → jm_H → Prop} {r0 : Nat} {x1 x2 x3 x4 : Int32} (h0 : jm_tg H r0 = 4) : jm_w S 4 58 38 [.ref r0, .int x1, .int x2, .int x3, .int x4, .null, .null, .null] [] H Q = Q (some (.int (1 : Int32))) (jm_pI H r0 3 (1 : Int32)) := (js1 at58_38 rfl rfl rfl).trans ((jsci at58_39 rfl rfl).trans ((jspI (H := H) at58_40 rv58p_95 rfl h0 rfl).trans ((jsci at58_43 rfl rfl).trans (jsret_i at58_44 rfl))))
theorem at58_45 : jm_at 58 45 = some (.aload_n 0) := by decide +kernel
theorem at58_46 : jm_at 58 46 = some (.getfield 21) := by decide +kernel
theorem at58_49 : jm_at 58 49 = some (.getfield 70) := by decide +kernel
theorem rv58g_70 : jm_rv 58 (.getfield 70) = (0, 2, 3, 0) := by decide +kernel
theorem at58_52 : jm_at 58 52 = some (.invokestatic 74) := by decide +kernel
theorem rv58i_74 : jm_rv 58 (.invokestatic 74) = (1, 53, 0, 0) := by decide +kernel
theorem u58_45 {S : Option (Nat × (Nat → Int32))} {H : jm_H} {Q : Option Value → jm_H → Prop} {r0 : Nat} {x1 x2 x3 x4 : Int32} (h0 : jm_tg H r0 = 4) (h1 : ¬ jm_R H r0 2 = 0) (h2 : jm_tg H (jm_R H r0 2) = 3) : jm_w S 4 58 45 [.ref r0, .int x1, .int x2, .int x3, .int x4, .null, .null, .null] [] H Q = jm_c S 53 [.long (jm_L H (jm_R H r0 2) 3)] H (fun v G => jm_w S 4 58 55 [.ref r0, .int x1, .int x2, .int x3, .int x4, .null, .null, .null] (v.toList ++ []) G Q) := (js1 at58_45 rfl rfl rfl).trans ((jsgR (H := H) at58_46 rv58g_21 rfl h0 h1 rfl).trans ((jsgL (H := H) at58_49 rv58g_70 rfl h2 rfl).trans (jscall (H := H) (as := [.long (jm_L H (jm_R H r0 2) 3)]) (q := []) at58_52 rfl rv58i_74 (jscut rfl rfl rfl (Nat.le_of_ble_eq_true rfl)) rfl (Nat.le_of_ble_eq_true rfl) rfl rfl)))
theorem at58_55 : jm_at 58 55 = some (.iconst 1) := by decide +kernel
theorem at58_56 : jm_at 58 56 = some (.isub) := by decide +kernel
theorem at58_57 : jm_at 58 57 = some (.istore 5) := by decide +kernel
theorem at58_59 : jm_at 58 59 = some (.iload 4) := by decide +kernel
theorem at58_61 : jm_at 58 61 = some (.iload_n 2) := by decide +kernel
theorem at58_62 : jm_at 58 62 = some (.invokestatic 116) := by decide +kernel
theorem rv58i_116 : jm_rv 58 (.invokestatic 116) = (1, 61, 0, 0) := by decide +kernel
theorem u58_55 {S : Option (Nat × (Nat → Int32))} {H : jm_H} {Q : Option Value → jm_H → Prop} {r0 : Nat} {x1 x2 x3 x4 p0 : Int32} : jm_w S 4 58 55 [.ref r0, .int x1, .int x2, .int x3, .int x4, .null, .null, .null] [.int p0] H Q = jm_c S 61 [.int x4, .int x2] H (fun v G => jm_w S 4 58 65 [.ref r0, .int x1, .int x2, .int x3, .int x4, .int (p0 - (1 : Int32)), .null, .null] (v.toList ++ []) G Q) := (jsci at58_55 rfl rfl).trans ((js0 at58_56 rfl rfl rfl).trans ((js1 at58_57 rfl rfl rfl).trans ((js1 at58_59 rfl rfl rfl).trans ((js1 at58_61 rfl rfl rfl).trans (jscall (H := H) (as := [.int x4, .int x2]) (q := []) at58_62 rfl rv58i_116 (jscut rfl rfl rfl (Nat.le_of_ble_eq_true rfl)) rfl (Nat.le_of_ble_eq_true rfl) rfl rfl)))))
theorem at58_65 : jm_at 58 65 = some (.iload 5) := by decide +kernel
theorem at58_67 : jm_at 58 67 = some (.lshl) := by decide +kernel
theorem at58_68 : jm_at 58 68 = some (.aload_n 0) := by decide +kernel
theorem at58_69 : jm_at 58 69 = some (.getfield 21) := by decide +kernel
theorem at58_72 : jm_at 58 72 = some (.getfield 70) := by decide +kernel
theorem at58_75 : jm_at 58 75 = some (.lconst 1) := by decide +kernel
theorem at58_76 : jm_at 58 76 = some (.iload 5) := by decide +kernel
theorem at58_78 : jm_at 58 78 = some (.lshl) := by decide +kernel
theorem at58_79 : jm_at 58 79 = some (.lconst 1) := by decide +kernel
theorem at58_80 : jm_at 58 80 = some (.lsub) := by decide +kernel
theorem at58_81 : jm_at 58 81 = some (.land) := by decide +kernel
theorem at58_82 : jm_at 58 82 = some (.lor) := by decide +kernel
theorem at58_83 : jm_at 58 83 = some (.lstore 6) := by decide +kernel
theorem at58_85 : jm_at 58 85 = some (.aload_n 0) := by decide +kernel
theorem at58_86 : jm_at 58 86 = some (.lload 6) := by decide +kernel
theorem at58_88 : jm_at 58 88 = some (.iload 4) := by decide +kernel
theorem at58_90 : jm_at 58 90 = some (.iload_n 2) := by decide +kernel
theorem at58_91 : jm_at 58 91 = some (.invokestatic 120) := by decide +kernel
theorem rv58i_120 : jm_rv 58 (.invokestatic 120) = (1, 62, 0, 0) := by decide +kernel
theorem u58_65 {S : Option (Nat × (Nat → Int32))} {H : jm_H} {Q : Option Value → jm_H → Prop} {r0 : Nat} {x1 x2 x3 x4 x5 : Int32} {q0 : Int64} (h0 : jm_tg H r0 = 4) (h1 : ¬ jm_R H r0 2 = 0) (h2 : jm_tg H (jm_R H r0 2) = 3) : jm_w S 4 58 65 [.ref r0, .int x1, .int x2, .int x3, .int x4, .int x5, .null, .null] [.long q0] H Q = jm_c S 62 [.int x4, .int x2] H (fun v G => jm_w S 4 58 94 [.ref r0, .int x1, .int x2, .int x3, .int x4, .int x5, .long ((q0 <<< (Int32.toInt64 x5 &&& 63)) ||| ((jm_L H (jm_R H r0 2) 3) &&& (((1 : Int64) <<< (Int32.toInt64 x5 &&& 63)) - (1 : Int64)))), .null] (v.toList ++ [.long ((q0 <<< (Int32.toInt64 x5 &&& 63)) ||| ((jm_L H (jm_R H r0 2) 3) &&& (((1 : Int64) <<< (Int32.toInt64 x5 &&& 63)) - (1 : Int64)))), .ref r0]) G Q) := (js1 at58_65 rfl rfl rfl).trans ((js0 at58_67 rfl rfl rfl).trans ((js1 at58_68 rfl rfl rfl).trans ((jsgR (H := H) at58_69 rv58g_21 rfl h0 h1 rfl).trans ((jsgL (H := H) at58_72 rv58g_70 rfl h2 rfl).trans ((jscl at58_75 rfl rfl).trans ((js1 at58_76 rfl rfl rfl).trans ((js0 at58_78 rfl rfl rfl).trans ((jscl at58_79 rfl rfl).trans ((js0 at58_80 rfl rfl rfl).trans ((js0 at58_81 rfl rfl rfl).trans ((js0 at58_82 rfl rfl rfl).trans ((js1 at58_83 rfl rfl rfl).trans ((js1 at58_85 rfl rfl rfl).trans ((js1 at58_86 rfl rfl rfl).trans ((js1 at58_88 rfl rfl rfl).trans ((js1 at58_90 rfl rfl rfl).trans (jscall (H := H) (as := [.int x4, .int x2]) (q := [.long ((q0 <<< (Int32.toInt64 x5 &&& 63)) ||| ((jm_L H (jm_R H r0 2) 3) &&& (((1 : Int64) <<< (Int32.toInt64 x5 &&& 63)) - (1 : Int64)))), .ref r0]) at58_91 rfl rv58i_120 (jscut rfl rfl rfl (Nat.le_of_ble_eq_true rfl)) rfl (Nat.le_of_ble_eq_true rfl) rfl rfl)))))))))))))))))
theorem at58_94 : jm_at 58 94 = some (.iload 5) := by decide +kernel
theorem at58_96 : jm_at 58 96 = some (.iadd) := by decide +kernel
theorem at58_97 : jm_at 58 97 = some (.iload_n 1) := by decide +kernel
theorem at58_98 : jm_at 58 98 = some (.iconst 1) := by decide +kernel
theorem at58_99 : jm_at 58 99 = some (.isub) := by decide +kernel
theorem at58_100 : jm_at 58 100 = some (.isub) := by decide +kernel
theorem at58_101 : jm_at 58 101 = some (.invokevirtual 123) := by decide +kernel
theorem rv58i_123 : jm_rv 58 (.invokevirtual 123) = (2, 63, 0, 0) := by decide +kernel
theorem u58_94 {S : Option (Nat × (Nat → Int32))} {H : jm_H} {Q : Option Value → jm_H → Prop} {r0 o0 : Nat} {x1 x2 x3 x4 x5 p2 : Int32} {y6 q1 : Int64} (h0 : jm_tg H o0 = 4) : jm_w S 4 58 94 [.ref r0, .int x1, .int x2, .int x3, .int x4, .int x5, .long y6, .null] [.int p2, .long q1, .ref o0] H Q = jm_c S 63 [.ref o0, .long q1, .int ((p2 + x5) - (x1 - (1 : Int32)))] H (fun v G => jm_w S 4 58 104 [.ref r0, .int x1, .int x2, .int x3, .int x4, .int x5, .long y6, .null] (v.toList ++ []) G Q) := (js1 at58_94 rfl rfl rfl).trans ((js0 at58_96 rfl rfl rfl).trans ((js1 at58_97 rfl rfl rfl).trans ((jsci at58_98 rfl rfl).trans ((js0 at58_99 rfl rfl rfl).trans ((js0 at58_100 rfl rfl rfl).trans (jscall (H := H) (as := [.ref o0, .long q1, .int ((p2 + x5) - (x1 - (1 : Int32)))]) (q := []) at58_101 rfl rv58i_123 (jscutV rfl rfl rfl (Nat.le_of_ble_eq_true rfl) rfl h0) rfl (Nat.le_of_ble_eq_true rfl) rfl rfl))))))
theorem at58_104 : jm_at 58 104 = some (.ireturn) := by decide +kernel
theorem u58_104 {S : Option (Nat × (Nat → Int32))} {H : jm_H} {Q : Option Value → jm_H → Prop} {r0 : Nat} {x1 x2 x3 x4 x5 p0 : Int32} {y6 : Int64} : jm_w S 4 58 104 [.ref r0, .int x1, .int x2, .int x3, .int x4, .int x5, .long y6, .null] [.int p0] H Q = Q (some (.int p0)) H := jsret_i at58_104 rfl
theorem en58 {S : Option (Nat × (Nat → Int32))} {H : jm_H} {Q : Option Value → jm_H → Prop} {r0 : Nat} {x1 x2 : Int32} : jm_c S 58 [.ref r0, .int x1, .int x2] H Q = jm_w S 4 58 0 [.ref r0, .int x1, .int x2, .null, .null, .null, .null, .null] [] H Q := rfl
theorem at61_0 : jm_at 61 0 = some (.iload_n 0) := by decide +kernel
theorem at61_1 : jm_at 61 1 = some (.iload_n 1) := by decide +kernel
theorem at61_2 : jm_at 61 2 = some (.ishr) := by decide +kernel
theorem at61_3 : jm_at 61 3 = some (.istore_n 2) := by decide +kernel
theorem at61_4 : jm_at 61 4 = some (.iload_n 2) := by decide +kernel
theorem at61_5 : jm_at 61 5 = some (.ifCond .lt 15) := by decide +kernel
theorem u61_0 {S : Option (Nat × (Nat → Int32))} {H : jm_H} {Q : Option Value → jm_H → Prop} {x0 x1 : Int32} : jm_w S 1 61 0 [.int x0, .int x1, .null, .null, .null] [] H Q = if (x0 >>> (x1 &&& 31)) < 0 then jm_w S 1 61 20 [.int x0, .int x1, .int (x0 >>> (x1 &&& 31)), .null, .null] [] H Q else jm_w S 1 61 8 [.int x0, .int x1, .int (x0 >>> (x1 &&& 31)), .null, .null] [] H Q := (js1 at61_0 rfl rfl rfl).trans ((js1 at61_1 rfl rfl rfl).trans ((js0 at61_2 rfl rfl rfl).trans ((js1 at61_3 rfl rfl rfl).trans ((js1 at61_4 rfl rfl rfl).trans (jsif (P := (x0 >>> (x1 &&& 31)) < 0) at61_5 rfl rfl)))))
theorem at61_8 : jm_at 61 8 = some (.lconst 1) := by decide +kernel
theorem at61_9 : jm_at 61 9 = some (.iload_n 2) := by decide +kernel
theorem at61_10 : jm_at 61 10 = some (.iconst 2) := by decide +kernel
theorem at61_11 : jm_at 61 11 = some (.iadd) := by decide +kernel
theorem at61_12 : jm_at 61 12 = some (.lshl) := by decide +kernel
theorem at61_13 : jm_at 61 13 = some (.ldc2_w 127) := by decide +kernel
theorem rv61l_127 : jm_rv 61 (.ldc2_w 127) = (9, 0, 0, 2) := by decide +kernel
theorem at61_16 : jm_at 61 16 = some (.lsub) := by decide +kernel
theorem at61_17 : jm_at 61 17 = some (.goto 4) := by decide +kernel
theorem u61_8 {S : Option (Nat × (Nat → Int32))} {H : jm_H} {Q : Option Value → jm_H → Prop} {x0 x1 x2 : Int32} : jm_w S 1 61 8 [.int x0, .int x1, .int x2, .null, .null] [] H Q = jm_w S 1 61 21 [.int x0, .int x1, .int x2, .null, .null] [.long (((1 : Int64) <<< (Int32.toInt64 (x2 + (2 : Int32)) &&& 63)) - (2 : Int64))] H Q := (jscl at61_8 rfl rfl).trans ((js1 at61_9 rfl rfl rfl).trans ((jsci at61_10 rfl rfl).trans ((js0 at61_11 rfl rfl rfl).trans ((js0 at61_12 rfl rfl rfl).trans ((jsk2 at61_13 rv61l_127 rfl rfl).trans ((js0 at61_16 rfl rfl rfl).trans (js2 at61_17 rfl rfl)))))))
theorem at61_20 : jm_at 61 20 = some (.lconst 1) := by decide +kernel
theorem u61_20 {S : Option (Nat × (Nat → Int32))} {H : jm_H} {Q : Option Value → jm_H → Prop} {x0 x1 x2 : Int32} : jm_w S 1 61 20 [.int x0, .int x1, .int x2, .null, .null] [] H Q = jm_w S 1 61 21 [.int x0, .int x1, .int x2, .null, .null] [.long (1 : Int64)] H Q := jscl at61_20 rfl rfl
theorem at61_21 : jm_at 61 21 = some (.lstore_n 3) := by decide +kernel
theorem at61_22 : jm_at 61 22 = some (.lload_n 3) := by decide +kernel
theorem at61_23 : jm_at 61 23 = some (.iload_n 1) := by decide +kernel
theorem at61_24 : jm_at 61 24 = some (.lshl) := by decide +kernel
theorem at61_25 : jm_at 61 25 = some (.iload_n 0) := by decide +kernel
theorem at61_26 : jm_at 61 26 = some (.iconst 1) := by decide +kernel
theorem at61_27 : jm_at 61 27 = some (.iload_n 1) := by decide +kernel
theorem at61_28 : jm_at 61 28 = some (.ishl) := by decide +kernel
theorem at61_29 : jm_at 61 29 = some (.iconst 1) := by decide +kernel
theorem at61_30 : jm_at 61 30 = some (.isub) := by decide +kernel
theorem at61_31 : jm_at 61 31 = some (.iand) := by decide +kernel
theorem at61_32 : jm_at 61 32 = some (.i2l) := by decide +kernel
theorem at61_33 : jm_at 61 33 = some (.lor) := by decide +kernel
theorem at61_34 : jm_at 61 34 = some (.lreturn) := by decide +kernel
theorem u61_21 {S : Option (Nat × (Nat → Int32))} {H : jm_H} {Q : Option Value → jm_H → Prop} {x0 x1 x2 : Int32} {q0 : Int64} : jm_w S 1 61 21 [.int x0, .int x1, .int x2, .null, .null] [.long q0] H Q = Q (some (.long ((q0 <<< (Int32.toInt64 x1 &&& 63)) ||| (Int32.toInt64 (x0 &&& (((1 : Int32) <<< (x1 &&& 31)) - (1 : Int32))))))) H := (js1 at61_21 rfl rfl rfl).trans ((js1 at61_22 rfl rfl rfl).trans ((js1 at61_23 rfl rfl rfl).trans ((js0 at61_24 rfl rfl rfl).trans ((js1 at61_25 rfl rfl rfl).trans ((jsci at61_26 rfl rfl).trans ((js1 at61_27 rfl rfl rfl).trans ((js0 at61_28 rfl rfl rfl).trans ((jsci at61_29 rfl rfl).trans ((js0 at61_30 rfl rfl rfl).trans ((js0 at61_31 rfl rfl rfl).trans ((js0 at61_32 rfl rfl rfl).trans ((js0 at61_33 rfl rfl rfl).trans (jsret_l at61_34 rfl)))))))))))))
theorem en61 {S : Option (Nat × (Nat → Int32))} {H : jm_H} {Q : Option Value → jm_H → Prop} {x0 x1 : Int32} : jm_c S 61 [.int x0, .int x1] H Q = jm_w S 1 61 0 [.int x0, .int x1, .null, .null, .null] [] H Q := rfl
theorem at62_0 : jm_at 62 0 = some (.iload_n 0) := by decide +kernel
theorem at62_1 : jm_at 62 1 = some (.iload_n 1) := by decide +kernel
theorem at62_2 : jm_at 62 2 = some (.ishr) := by decide +kernel
theorem at62_3 : jm_at 62 3 = some (.istore_n 2) := by decide +kernel
theorem at62_4 : jm_at 62 4 = some (.iload_n 2) := by decide +kernel
theorem at62_5 : jm_at 62 5 = some (.ifCond .lt 9) := by decide +kernel
theorem u62_0 {S : Option (Nat × (Nat → Int32))} {H : jm_H} {Q : Option Value → jm_H → Prop} {x0 x1 : Int32} : jm_w S 1 62 0 [.int x0, .int x1, .null] [] H Q = if (x0 >>> (x1 &&& 31)) < 0 then jm_w S 1 62 14 [.int x0, .int x1, .int (x0 >>> (x1 &&& 31))] [] H Q else jm_w S 1 62 8 [.int x0, .int x1, .int (x0 >>> (x1 &&& 31))] [] H Q := (js1 at62_0 rfl rfl rfl).trans ((js1 at62_1 rfl rfl rfl).trans ((js0 at62_2 rfl rfl rfl).trans ((js1 at62_3 rfl rfl rfl).trans ((js1 at62_4 rfl rfl rfl).trans (jsif (P := (x0 >>> (x1 &&& 31)) < 0) at62_5 rfl rfl)))))
theorem at62_8 : jm_at 62 8 = some (.iload_n 2) := by decide +kernel
theorem at62_9 : jm_at 62 9 = some (.iconst 2) := by decide +kernel
theorem at62_10 : jm_at 62 10 = some (.iadd) := by decide +kernel
theorem at62_11 : jm_at 62 11 = some (.goto 6) := by decide +kernel
theorem u62_8 {S : Option (Nat × (Nat → Int32))} {H : jm_H} {Q : Option Value → jm_H → Prop} {x0 x1 x2 : Int32} : jm_w S 1 62 8 [.int x0, .int x1, .int x2] [] H Q = jm_w S 1 62 17 [.int x0, .int x1, .int x2] [.int (x2 + (2 : Int32))] H Q := (js1 at62_8 rfl rfl rfl).trans ((jsci at62_9 rfl rfl).trans ((js0 at62_10 rfl rfl rfl).trans (js2 at62_11 rfl rfl)))
theorem at62_14 : jm_at 62 14 = some (.iconst 1) := by decide +kernel
theorem at62_15 : jm_at 62 15 = some (.iload_n 2) := by decide +kernel
theorem at62_16 : jm_at 62 16 = some (.isub) := by decide +kernel
theorem u62_14 {S : Option (Nat × (Nat → Int32))} {H : jm_H} {Q : Option Value → jm_H → Prop} {x0 x1 x2 : Int32} : jm_w S 1 62 14 [.int x0, .int x1, .int x2] [] H Q = jm_w S 1 62 17 [.int x0, .int x1, .int x2] [.int ((1 : Int32) - x2)] H Q := (jsci at62_14 rfl rfl).trans ((js1 at62_15 rfl rfl rfl).trans (js0 at62_16 rfl rfl rfl))
theorem at62_17 : jm_at 62 17 = some (.iload_n 1) := by decide +kernel
theorem at62_18 : jm_at 62 18 = some (.iadd) := by decide +kernel
theorem at62_19 : jm_at 62 19 = some (.ireturn) := by decide +kernel
theorem u62_17 {S : Option (Nat × (Nat → Int32))} {H : jm_H} {Q : Option Value → jm_H → Prop} {x0 x1 x2 p0 : Int32} : jm_w S 1 62 17 [.int x0, .int x1, .int x2] [.int p0] H Q = Q (some (.int (p0 + x1))) H := (js1 at62_17 rfl rfl rfl).trans ((js0 at62_18 rfl rfl rfl).trans (jsret_i at62_19 rfl))
theorem en62 {S : Option (Nat × (Nat → Int32))} {H : jm_H} {Q : Option Value → jm_H → Prop} {x0 x1 : Int32} : jm_c S 62 [.int x0, .int x1] H Q = jm_w S 1 62 0 [.int x0, .int x1, .null] [] H Q := rfl
theorem at63_0 : jm_at 63 0 = some (.aload_n 0) := by decide +kernel
theorem at63_1 : jm_at 63 1 = some (.iconst 0) := by decide +kernel
theorem at63_2 : jm_at 63 2 = some (.putfield 95) := by decide +kernel
theorem rv63p_95 : jm_rv 63 (.putfield 95) = (0, 3, 3, 0) := by decide +kernel
theorem at63_5 : jm_at 63 5 = some (.iload_n 3) := by decide +kernel
theorem at63_6 : jm_at 63 6 = some (.ifCond .gt 9) := by decide +kernel
theorem u63_0 {S : Option (Nat × (Nat → Int32))} {H : jm_H} {Q : Option Value → jm_H → Prop} {r0 : Nat} {y1 : Int64} {x3 : Int32} (h0 : jm_tg H r0 = 4) : jm_w S 1 63 0 [.ref r0, .long y1, .null, .int x3, .null, .null, .null, .null, .null, .null, .null] [] H Q = if 0 < x3 then jm_w S 1 63 15 [.ref r0, .long y1, .null, .int x3, .null, .null, .null, .null, .null, .null, .null] [] (jm_pI H r0 3 (0 : Int32)) Q else jm_w S 1 63 9 [.ref r0, .long y1, .null, .int x3, .null, .null, .null, .null, .null, .null, .null] [] (jm_pI H r0 3 (0 : Int32)) Q := (js1 at63_0 rfl rfl rfl).trans ((jsci at63_1 rfl rfl).trans ((jspI (H := H) at63_2 rv63p_95 rfl h0 rfl).trans ((js1 at63_5 rfl rfl rfl).trans (jsif (P := 0 < x3) at63_6 rfl rfl))))
theorem at63_9 : jm_at 63 9 = some (.lload_n 1) := by decide +kernel
theorem at63_10 : jm_at 63 10 = some (.iload_n 3) := by decide +kernel
theorem at63_11 : jm_at 63 11 = some (.ineg) := by decide +kernel
theorem at63_12 : jm_at 63 12 = some (.lshl) := by decide +kernel
theorem at63_13 : jm_at 63 13 = some (.l2i) := by decide +kernel
theorem at63_14 : jm_at 63 14 = some (.ireturn) := by decide +kernel
theorem u63_9 {S : Option (Nat × (Nat → Int32))} {H : jm_H} {Q : Option Value → jm_H → Prop} {r0 : Nat} {y1 : Int64} {x3 : Int32} : jm_w S 1 63 9 [.ref r0, .long y1, .null, .int x3, .null, .null, .null, .null, .null, .null, .null] [] H Q = Q (some (.int (Int64.toInt32 (y1 <<< (Int32.toInt64 (-x3) &&& 63))))) H := (js1 at63_9 rfl rfl rfl).trans ((js1 at63_10 rfl rfl rfl).trans ((js0 at63_11 rfl rfl rfl).trans ((js0 at63_12 rfl rfl rfl).trans ((js0 at63_13 rfl rfl rfl).trans (jsret_i at63_14 rfl)))))
theorem at63_15 : jm_at 63 15 = some (.lload_n 1) := by decide +kernel
theorem at63_16 : jm_at 63 16 = some (.iload_n 3) := by decide +kernel
theorem at63_17 : jm_at 63 17 = some (.lshr) := by decide +kernel
theorem at63_18 : jm_at 63 18 = some (.lstore 4) := by decide +kernel
theorem at63_20 : jm_at 63 20 = some (.lload_n 1) := by decide +kernel
theorem at63_21 : jm_at 63 21 = some (.lconst 1) := by decide +kernel
theorem at63_22 : jm_at 63 22 = some (.iload_n 3) := by decide +kernel
theorem at63_23 : jm_at 63 23 = some (.lshl) := by decide +kernel
theorem at63_24 : jm_at 63 24 = some (.lconst 1) := by decide +kernel
theorem at63_25 : jm_at 63 25 = some (.lsub) := by decide +kernel
theorem at63_26 : jm_at 63 26 = some (.land) := by decide +kernel
theorem at63_27 : jm_at 63 27 = some (.lstore 6) := by decide +kernel
theorem at63_29 : jm_at 63 29 = some (.lconst 1) := by decide +kernel
theorem at63_30 : jm_at 63 30 = some (.iload_n 3) := by decide +kernel
theorem at63_31 : jm_at 63 31 = some (.iconst 1) := by decide +kernel
theorem at63_32 : jm_at 63 32 = some (.isub) := by decide +kernel
theorem at63_33 : jm_at 63 33 = some (.lshl) := by decide +kernel
theorem at63_34 : jm_at 63 34 = some (.lstore 8) := by decide +kernel
theorem at63_36 : jm_at 63 36 = some (.lload 6) := by decide +kernel
theorem at63_38 : jm_at 63 38 = some (.lload 8) := by decide +kernel
theorem at63_40 : jm_at 63 40 = some (.lcmp) := by decide +kernel
theorem at63_41 : jm_at 63 41 = some (.ifCond .gt 20) := by decide +kernel
theorem u63_15 {S : Option (Nat × (Nat → Int32))} {H : jm_H} {Q : Option Value → jm_H → Prop} {r0 : Nat} {y1 : Int64} {x3 : Int32} : jm_w S 1 63 15 [.ref r0, .long y1, .null, .int x3, .null, .null, .null, .null, .null, .null, .null] [] H Q = if 0 < (lg_cmp (y1 &&& (((1 : Int64) <<< (Int32.toInt64 x3 &&& 63)) - (1 : Int64))) ((1 : Int64) <<< (Int32.toInt64 (x3 - (1 : Int32)) &&& 63))) then jm_w S 1 63 61 [.ref r0, .long y1, .null, .int x3, .long (y1 >>> (Int32.toInt64 x3 &&& 63)), .null, .long (y1 &&& (((1 : Int64) <<< (Int32.toInt64 x3 &&& 63)) - (1 : Int64))), .null, .long ((1 : Int64) <<< (Int32.toInt64 (x3 - (1 : Int32)) &&& 63)), .null, .null] [] H Q else jm_w S 1 63 44 [.ref r0, .long y1, .null, .int x3, .long (y1 >>> (Int32.toInt64 x3 &&& 63)), .null, .long (y1 &&& (((1 : Int64) <<< (Int32.toInt64 x3 &&& 63)) - (1 : Int64))), .null, .long ((1 : Int64) <<< (Int32.toInt64 (x3 - (1 : Int32)) &&& 63)), .null, .null] [] H Q := (js1 at63_15 rfl rfl rfl).trans ((js1 at63_16 rfl rfl rfl).trans ((js0 at63_17 rfl rfl rfl).trans ((js1 at63_18 rfl rfl rfl).trans ((js1 at63_20 rfl rfl rfl).trans ((jscl at63_21 rfl rfl).trans ((js1 at63_22 rfl rfl rfl).trans ((js0 at63_23 rfl rfl rfl).trans ((jscl at63_24 rfl rfl).trans ((js0 at63_25 rfl rfl rfl).trans ((js0 at63_26 rfl rfl rfl).trans ((js1 at63_27 rfl rfl rfl).trans ((jscl at63_29 rfl rfl).trans ((js1 at63_30 rfl rfl rfl).trans ((jsci at63_31 rfl rfl).trans ((js0 at63_32 rfl rfl rfl).trans ((js0 at63_33 rfl rfl rfl).trans ((js1 at63_34 rfl rfl rfl).trans ((js1 at63_36 rfl rfl rfl).trans ((js1 at63_38 rfl rfl rfl).trans ((js0 at63_40 rfl rfl rfl).trans (jsif (P := 0 < (lg_cmp (y1 &&& (((1 : Int64) <<< (Int32.toInt64 x3 &&& 63)) - (1 : Int64))) ((1 : Int64) <<< (Int32.toInt64 (x3 - (1 : Int32)) &&& 63)))) at63_41 rfl rfl)))))))))))))))))))))
theorem at63_44 : jm_at 63 44 = some (.lload 6) := by decide +kernel
theorem at63_46 : jm_at 63 46 = some (.lload 8) := by decide +kernel
theorem at63_48 : jm_at 63 48 = some (.lcmp) := by decide +kernel
theorem at63_49 : jm_at 63 49 = some (.ifCond .ne 16) := by decide +kernel
theorem u63_44 {S : Option (Nat × (Nat → Int32))} {H : jm_H} {Q : Option Value → jm_H → Prop} {r0 : Nat} {y1 y4 y6 y8 : Int64} {x3 : Int32} : jm_w S 1 63 44 [.ref r0, .long y1, .null, .int x3, .long y4, .null, .long y6, .null, .long y8, .null, .null] [] H Q = if ¬ (lg_cmp y6 y8) = 0 then jm_w S 1 63 65 [.ref r0, .long y1, .null, .int x3, .long y4, .null, .long y6, .null, .long y8, .null, .null] [] H Q else jm_w S 1 63 52 [.ref r0, .long y1, .null, .int x3, .long y4, .null, .long y6, .null, .long y8, .null, .null] [] H Q := (js1 at63_44 rfl rfl rfl).trans ((js1 at63_46 rfl rfl rfl).trans ((js0 at63_48 rfl rfl rfl).trans (jsif (P := ¬ (lg_cmp y6 y8) = 0) at63_49 rfl rfl)))
theorem at63_52 : jm_at 63 52 = some (.lload 4) := by decide +kernel
theorem at63_54 : jm_at 63 54 = some (.lconst 1) := by decide +kernel
theorem at63_55 : jm_at 63 55 = some (.land) := by decide +kernel
theorem at63_56 : jm_at 63 56 = some (.lconst 1) := by decide +kernel
theorem at63_57 : jm_at 63 57 = some (.lcmp) := by decide +kernel
theorem at63_58 : jm_at 63 58 = some (.ifCond .ne 7) := by decide +kernel
theorem u63_52 {S : Option (Nat × (Nat → Int32))} {H : jm_H} {Q : Option Value → jm_H → Prop} {r0 : Nat} {y1 y4 y6 y8 : Int64} {x3 : Int32} : jm_w S 1 63 52 [.ref r0, .long y1, .null, .int x3, .long y4, .null, .long y6, .null, .long y8, .null, .null] [] H Q = if ¬ (lg_cmp (y4 &&& (1 : Int64)) (1 : Int64)) = 0 then jm_w S 1 63 65 [.ref r0, .long y1, .null, .int x3, .long y4, .null, .long y6, .null, .long y8, .null, .null] [] H Q else jm_w S 1 63 61 [.ref r0, .long y1, .null, .int x3, .long y4, .null, .long y6, .null, .long y8, .null, .null] [] H Q := (js1 at63_52 rfl rfl rfl).trans ((jscl at63_54 rfl rfl).trans ((js0 at63_55 rfl rfl rfl).trans ((jscl at63_56 rfl rfl).trans ((js0 at63_57 rfl rfl rfl).trans (jsif (P := ¬ (lg_cmp (y4 &&& (1 : Int64)) (1 : Int64)) = 0) at63_58 rfl rfl)))))
theorem at63_61 : jm_at 63 61 = some (.iconst 1) := by decide +kernel
theorem at63_62 : jm_at 63 62 = some (.goto 4) := by decide +kernel
theorem u63_61 {S : Option (Nat × (Nat → Int32))} {H : jm_H} {Q : Option Value → jm_H → Prop} {r0 : Nat} {y1 y4 y6 y8 : Int64} {x3 : Int32} : jm_w S 1 63 61 [.ref r0, .long y1, .null, .int x3, .long y4, .null, .long y6, .null, .long y8, .null, .null] [] H Q = jm_w S 1 63 66 [.ref r0, .long y1, .null, .int x3, .long y4, .null, .long y6, .null, .long y8, .null, .null] [.int (1 : Int32)] H Q := (jsci at63_61 rfl rfl).trans (js2 at63_62 rfl rfl)
theorem at63_65 : jm_at 63 65 = some (.iconst 0) := by decide +kernel
theorem u63_65 {S : Option (Nat × (Nat → Int32))} {H : jm_H} {Q : Option Value → jm_H → Prop} {r0 : Nat} {y1 y4 y6 y8 : Int64} {x3 : Int32} : jm_w S 1 63 65 [.ref r0, .long y1, .null, .int x3, .long y4, .null, .long y6, .null, .long y8, .null, .null] [] H Q = jm_w S 1 63 66 [.ref r0, .long y1, .null, .int x3, .long y4, .null, .long y6, .null, .long y8, .null, .null] [.int (0 : Int32)] H Q := jsci at63_65 rfl rfl
theorem at63_66 : jm_at 63 66 = some (.istore 10) := by decide +kernel
theorem at63_68 : jm_at 63 68 = some (.lload 6) := by decide +kernel
theorem at63_70 : jm_at 63 70 = some (.lconst 0) := by decide +kernel
theorem at63_71 : jm_at 63 71 = some (.lcmp) := by decide +kernel
theorem at63_72 : jm_at 63 72 = some (.ifCond .eq 17) := by decide +kernel
theorem u63_66 {S : Option (Nat × (Nat → Int32))} {H : jm_H} {Q : Option Value → jm_H → Prop} {r0 : Nat} {y1 y4 y6 y8 : Int64} {x3 p0 : Int32} : jm_w S 1 63 66 [.ref r0, .long y1, .null, .int x3, .long y4, .null, .long y6, .null, .long y8, .null, .null] [.int p0] H Q = if (lg_cmp y6 (0 : Int64)) = 0 then jm_w S 1 63 89 [.ref r0, .long y1, .null, .int x3, .long y4, .null, .long y6, .null, .long y8, .null, .int p0] [] H Q else jm_w S 1 63 75 [.ref r0, .long y1, .null, .int x3, .long y4, .null, .long y6, .null, .long y8, .null, .int p0] [] H Q := (js1 at63_66 rfl rfl rfl).trans ((js1 at63_68 rfl rfl rfl).trans ((jscl at63_70 rfl rfl).trans ((js0 at63_71 rfl rfl rfl).trans (jsif (P := (lg_cmp y6 (0 : Int64)) = 0) at63_72 rfl rfl))))
theorem at63_75 : jm_at 63 75 = some (.aload_n 0) := by decide +kernel
theorem at63_76 : jm_at 63 76 = some (.iload 10) := by decide +kernel
theorem at63_78 : jm_at 63 78 = some (.ifCond .eq 7) := by decide +kernel
theorem u63_75 {S : Option (Nat × (Nat → Int32))} {H : jm_H} {Q : Option Value → jm_H → Prop} {r0 : Nat} {y1 y4 y6 y8 : Int64} {x3 x10 : Int32} : jm_w S 1 63 75 [.ref r0, .long y1, .null, .int x3, .long y4, .null, .long y6, .null, .long y8, .null, .int x10] [] H Q = if x10 = 0 then jm_w S 1 63 85 [.ref r0, .long y1, .null, .int x3, .long y4, .null, .long y6, .null, .long y8, .null, .int x10] [.ref r0] H Q else jm_w S 1 63 81 [.ref r0, .long y1, .null, .int x3, .long y4, .null, .long y6, .null, .long y8, .null, .int x10] [.ref r0] H Q := (js1 at63_75 rfl rfl rfl).trans ((js1 at63_76 rfl rfl rfl).trans (jsif (P := x10 = 0) at63_78 rfl rfl))
theorem at63_81 : jm_at 63 81 = some (.iconst 1) := by decide +kernel
theorem at63_82 : jm_at 63 82 = some (.goto 4) := by decide +kernel
theorem u63_81 {S : Option (Nat × (Nat → Int32))} {H : jm_H} {Q : Option Value → jm_H → Prop} {r0 o0 : Nat} {y1 y4 y6 y8 : Int64} {x3 x10 : Int32} : jm_w S 1 63 81 [.ref r0, .long y1, .null, .int x3, .long y4, .null, .long y6, .null, .long y8, .null, .int x10] [.ref o0] H Q = jm_w S 1 63 86 [.ref r0, .long y1, .null, .int x3, .long y4, .null, .long y6, .null, .long y8, .null, .int x10] [.int (1 : Int32), .ref o0] H Q := (jsci at63_81 rfl rfl).trans (js2 at63_82 rfl rfl)
theorem at63_85 : jm_at 63 85 = some (.iconst (-1)) := by decide +kernel
theorem u63_85 {S : Option (Nat × (Nat → Int32))} {H : jm_H} {Q : Option Value → jm_H → Prop} {r0 o0 : Nat} {y1 y4 y6 y8 : Int64} {x3 x10 : Int32} : jm_w S 1 63 85 [.ref r0, .long y1, .null, .int x3, .long y4, .null, .long y6, .null, .long y8, .null, .int x10] [.ref o0] H Q = jm_w S 1 63 86 [.ref r0, .long y1, .null, .int x3, .long y4, .null, .long y6, .null, .long y8, .null, .int x10] [.int (-1 : Int32), .ref o0] H Q := jsci at63_85 rfl rfl
theorem at63_86 : jm_at 63 86 = some (.putfield 95) := by decide +kernel
theorem u63_86 {S : Option (Nat × (Nat → Int32))} {H : jm_H} {Q : Option Value → jm_H → Prop} {r0 o0 : Nat} {y1 y4 y6 y8 : Int64} {x3 x10 p1 : Int32} (h0 : jm_tg H o0 = 4) : jm_w S 1 63 86 [.ref r0, .long y1, .null, .int x3, .long y4, .null, .long y6, .null, .long y8, .null, .int x10] [.int p1, .ref o0] H Q = jm_w S 1 63 89 [.ref r0, .long y1, .null, .int x3, .long y4, .null, .long y6, .null, .long y8, .null, .int x10] [] (jm_pI H o0 3 p1) Q := jspI (H := H) at63_86 rv63p_95 rfl h0 rfl
theorem at63_89 : jm_at 63 89 = some (.iload 10) := by decide +kernel
theorem at63_91 : jm_at 63 91 = some (.ifCond .eq 10) := by decide +kernel
theorem u63_89 {S : Option (Nat × (Nat → Int32))} {H : jm_H} {Q : Option Value → jm_H → Prop} {r0 : Nat} {y1 y4 y6 y8 : Int64} {x3 x10 : Int32} : jm_w S 1 63 89 [.ref r0, .long y1, .null, .int x3, .long y4, .null, .long y6, .null, .long y8, .null, .int x10] [] H Q = if x10 = 0 then jm_w S 1 63 101 [.ref r0, .long y1, .null, .int x3, .long y4, .null, .long y6, .null, .long y8, .null, .int x10] [] H Q else jm_w S 1 63 94 [.ref r0, .long y1, .null, .int x3, .long y4, .null, .long y6, .null, .long y8, .null, .int x10] [] H Q := (js1 at63_89 rfl rfl rfl).trans (jsif (P := x10 = 0) at63_91 rfl rfl)
theorem at63_94 : jm_at 63 94 = some (.lload 4) := by decide +kernel
theorem at63_96 : jm_at 63 96 = some (.lconst 1) := by decide +kernel
theorem at63_97 : jm_at 63 97 = some (.ladd) := by decide +kernel
theorem at63_98 : jm_at 63 98 = some (.goto 5) := by decide +kernel
theorem u63_94 {S : Option (Nat × (Nat → Int32))} {H : jm_H} {Q : Option Value → jm_H → Prop} {r0 : Nat} {y1 y4 y6 y8 : Int64} {x3 x10 : Int32} : jm_w S 1 63 94 [.ref r0, .long y1, .null, .int x3, .long y4, .null, .long y6, .null, .long y8, .null, .int x10] [] H Q = jm_w S 1 63 103 [.ref r0, .long y1, .null, .int x3, .long y4, .null, .long y6, .null, .long y8, .null, .int x10] [.long (y4 + (1 : Int64))] H Q := (js1 at63_94 rfl rfl rfl).trans ((jscl at63_96 rfl rfl).trans ((js0 at63_97 rfl rfl rfl).trans (js2 at63_98 rfl rfl)))
theorem at63_101 : jm_at 63 101 = some (.lload 4) := by decide +kernel
theorem u63_101 {S : Option (Nat × (Nat → Int32))} {H : jm_H} {Q : Option Value → jm_H → Prop} {r0 : Nat} {y1 y4 y6 y8 : Int64} {x3 x10 : Int32} : jm_w S 1 63 101 [.ref r0, .long y1, .null, .int x3, .long y4, .null, .long y6, .null, .long y8, .null, .int x10] [] H Q = jm_w S 1 63 103 [.ref r0, .long y1, .null, .int x3, .long y4, .null, .long y6, .null, .long y8, .null, .int x10] [.long y4] H Q := js1 at63_101 rfl rfl rfl
theorem at63_103 : jm_at 63 103 = some (.l2i) := by decide +kernel
theorem at63_104 : jm_at 63 104 = some (.ireturn) := by decide +kernel
theorem u63_103 {S : Option (Nat × (Nat → Int32))} {H : jm_H} {Q : Option Value → jm_H → Prop} {r0 : Nat} {y1 y4 y6 y8 q0 : Int64} {x3 x10 : Int32} : jm_w S 1 63 103 [.ref r0, .long y1, .null, .int x3, .long y4, .null, .long y6, .null, .long y8, .null, .int x10] [.long q0] H Q = Q (some (.int (Int64.toInt32 q0))) H := (js0 at63_103 rfl rfl rfl).trans (jsret_i at63_104 rfl)
theorem en63 {S : Option (Nat × (Nat → Int32))} {H : jm_H} {Q : Option Value → jm_H → Prop} {r0 : Nat} {y1 : Int64} {x3 : Int32} : jm_c S 63 [.ref r0, .long y1, .int x3] H Q = jm_w S 1 63 0 [.ref r0, .long y1, .null, .int x3, .null, .null, .null, .null, .null, .null, .null] [] H Q := rfl
theorem at67_0 : jm_at 67 0 = some (.aload_n 0) := by decide +kernel
theorem at67_1 : jm_at 67 1 = some (.getfield 12) := by decide +kernel
theorem rv67g_12 : jm_rv 67 (.getfield 12) = (0, 3, 0, 0) := by decide +kernel
theorem at67_4 : jm_at 67 4 = some (.iload_n 1) := by decide +kernel
theorem at67_5 : jm_at 67 5 = some (.iload_n 2) := by decide +kernel
theorem at67_6 : jm_at 67 6 = some (.iload_n 3) := by decide +kernel
theorem at67_7 : jm_at 67 7 = some (.invokevirtual 24) := by decide +kernel
theorem rv67i_24 : jm_rv 67 (.invokevirtual 24) = (2, 68, 0, 0) := by decide +kernel
theorem u67_0 {S : Option (Nat × (Nat → Int32))} {H : jm_H} {Q : Option Value → jm_H → Prop} {r0 : Nat} {x1 x2 x3 : Int32} (h0 : jm_tg H r0 = 4) (h1 : ¬ jm_R H r0 0 = 0) (h2 : jm_tg H (jm_R H r0 0) = 3) : jm_w S 6 67 0 [.ref r0, .int x1, .int x2, .int x3] [] H Q = jm_c S 68 [.ref (jm_R H r0 0), .int x1, .int x2, .int x3] H (fun v G => jm_w S 6 67 10 [.ref r0, .int x1, .int x2, .int x3] (v.toList ++ []) G Q) := (js1 at67_0 rfl rfl rfl).trans ((jsgR (H := H) at67_1 rv67g_12 rfl h0 h1 rfl).trans ((js1 at67_4 rfl rfl rfl).trans ((js1 at67_5 rfl rfl rfl).trans ((js1 at67_6 rfl rfl rfl).trans (jscall (H := H) (as := [.ref (jm_R H r0 0), .int x1, .int x2, .int x3]) (q := []) at67_7 rfl rv67i_24 (jscutV rfl rfl rfl (Nat.le_of_ble_eq_true rfl) rfl h2) rfl (Nat.le_of_ble_eq_true rfl) rfl rfl)))))
theorem at67_10 : jm_at 67 10 = some (.aload_n 0) := by decide +kernel
theorem at67_11 : jm_at 67 11 = some (.invokevirtual 45) := by decide +kernel
theorem rv67i_45 : jm_rv 67 (.invokevirtual 45) = (2, 77, 0, 0) := by decide +kernel
theorem u67_10 {S : Option (Nat × (Nat → Int32))} {H : jm_H} {Q : Option Value → jm_H → Prop} {r0 : Nat} {x1 x2 x3 : Int32} (h0 : jm_tg H r0 = 4) : jm_w S 6 67 10 [.ref r0, .int x1, .int x2, .int x3] [] H Q = jm_c S 77 [.ref r0] H (fun v G => jm_w S 6 67 14 [.ref r0, .int x1, .int x2, .int x3] (v.toList ++ []) G Q) := (js1 at67_10 rfl rfl rfl).trans (jscall (H := H) (as := [.ref r0]) (q := []) at67_11 rfl rv67i_45 (jscutV rfl rfl rfl (Nat.le_of_ble_eq_true rfl) rfl h0) rfl (Nat.le_of_ble_eq_true rfl) rfl rfl)
theorem at67_14 : jm_at 67 14 = some (.aload_n 0) := by decide +kernel
theorem at67_15 : jm_at 67 15 = some (.iload_n 1) := by decide +kernel
theorem at67_16 : jm_at 67 16 = some (.iload_n 2) := by decide +kernel
theorem at67_17 : jm_at 67 17 = some (.aload_n 0) := by decide +kernel
theorem at67_18 : jm_at 67 18 = some (.getfield 21) := by decide +kernel
theorem rv67g_21 : jm_rv 67 (.getfield 21) = (0, 3, 2, 0) := by decide +kernel
theorem at67_21 : jm_at 67 21 = some (.invokevirtual 41) := by decide +kernel
theorem rv67i_41 : jm_rv 67 (.invokevirtual 41) = (2, 49, 0, 0) := by decide +kernel
theorem u67_14 {S : Option (Nat × (Nat → Int32))} {H : jm_H} {Q : Option Value → jm_H → Prop} {r0 : Nat} {x1 x2 x3 : Int32} (h0 : jm_tg H r0 = 4) (h1 : ¬ jm_R H r0 2 = 0) : jm_w S 6 67 14 [.ref r0, .int x1, .int x2, .int x3] [] H Q = jm_c S 49 [.ref r0, .int x1, .int x2, .ref (jm_R H r0 2)] H (fun v G => jm_w S 6 67 24 [.ref r0, .int x1, .int x2, .int x3] (v.toList ++ []) G Q) := (js1 at67_14 rfl rfl rfl).trans ((js1 at67_15 rfl rfl rfl).trans ((js1 at67_16 rfl rfl rfl).trans ((js1 at67_17 rfl rfl rfl).trans ((jsgR (H := H) at67_18 rv67g_21 rfl h0 h1 rfl).trans (jscall (H := H) (as := [.ref r0, .int x1, .int x2, .ref (jm_R H r0 2)]) (q := []) at67_21 rfl rv67i_41 (jscutV rfl rfl rfl (Nat.le_of_ble_eq_true rfl) rfl h0) rfl (Nat.le_of_ble_eq_true rfl) rfl rfl)))))
theorem at67_24 : jm_at 67 24 = some (.ireturn) := by decide +kernel
theorem u67_24 {S : Option (Nat × (Nat → Int32))} {H : jm_H} {Q : Option Value → jm_H → Prop} {r0 : Nat} {x1 x2 x3 p0 : Int32} : jm_w S 6 67 24 [.ref r0, .int x1, .int x2, .int x3] [.int p0] H Q = Q (some (.int p0)) H := jsret_i at67_24 rfl
theorem en67 {S : Option (Nat × (Nat → Int32))} {H : jm_H} {Q : Option Value → jm_H → Prop} {r0 : Nat} {x1 x2 x3 : Int32} : jm_c S 67 [.ref r0, .int x1, .int x2, .int x3] H Q = jm_w S 6 67 0 [.ref r0, .int x1, .int x2, .int x3] [] H Q := rfl
theorem at77_0 : jm_at 77 0 = some (.aload_n 0) := by decide +kernel
theorem at77_1 : jm_at 77 1 = some (.getfield 12) := by decide +kernel
theorem rv77g_12 : jm_rv 77 (.getfield 12) = (0, 3, 0, 0) := by decide +kernel
theorem at77_4 : jm_at 77 4 = some (.getfield 59) := by decide +kernel
theorem rv77g_59 : jm_rv 77 (.getfield 59) = (0, 2, 1, 0) := by decide +kernel
theorem at77_7 : jm_at 77 7 = some (.ifCond .ne 13) := by decide +kernel
theorem u77_0 {S : Option (Nat × (Nat → Int32))} {H : jm_H} {Q : Option Value → jm_H → Prop} {r0 : Nat} (h0 : jm_tg H r0 = 4) (h1 : ¬ jm_R H r0 0 = 0) (h2 : jm_tg H (jm_R H r0 0) = 3) : jm_w S 3 77 0 [.ref r0, .null, .null, .null, .null, .null, .null, .null] [] H Q = if ¬ (jm_I H (jm_R H r0 0) 1) = 0 then jm_w S 3 77 20 [.ref r0, .null, .null, .null, .null, .null, .null, .null] [] H Q else jm_w S 3 77 10 [.ref r0, .null, .null, .null, .null, .null, .null, .null] [] H Q := (js1 at77_0 rfl rfl rfl).trans ((jsgR (H := H) at77_1 rv77g_12 rfl h0 h1 rfl).trans ((jsgI (H := H) at77_4 rv77g_59 (Or.inr rfl) h2 rfl).trans (jsif (P := ¬ (jm_I H (jm_R H r0 0) 1) = 0) at77_7 rfl rfl)))
theorem at77_10 : jm_at 77 10 = some (.aload_n 0) := by decide +kernel
theorem at77_11 : jm_at 77 11 = some (.getfield 12) := by decide +kernel
theorem at77_14 : jm_at 77 14 = some (.getfield 31) := by decide +kernel
theorem rv77g_31 : jm_rv 77 (.getfield 31) = (0, 2, 2, 0) := by decide +kernel
theorem at77_17 : jm_at 77 17 = some (.ifCond .ge 11) := by decide +kernel
theorem u77_10 {S : Option (Nat × (Nat → Int32))} {H : jm_H} {Q : Option Value → jm_H → Prop} {r0 : Nat} (h0 : jm_tg H r0 = 4) (h1 : ¬ jm_R H r0 0 = 0) (h2 : jm_tg H (jm_R H r0 0) = 3) : jm_w S 3 77 10 [.ref r0, .null, .null, .null, .null, .null, .null, .null] [] H Q = if 0 ≤ (jm_I H (jm_R H r0 0) 2) then jm_w S 3 77 28 [.ref r0, .null, .null, .null, .null, .null, .null, .null] [] H Q else jm_w S 3 77 20 [.ref r0, .null, .null, .null, .null, .null, .null, .null] [] H Q := (js1 at77_10 rfl rfl rfl).trans ((jsgR (H := H) at77_11 rv77g_12 rfl h0 h1 rfl).trans ((jsgI (H := H) at77_14 rv77g_31 (Or.inl rfl) h2 rfl).trans (jsif (P := 0 ≤ (jm_I H (jm_R H r0 0) 2)) at77_17 rfl rfl)))
theorem at77_20 : jm_at 77 20 = some (.aload_n 0) := by decide +kernel
theorem at77_21 : jm_at 77 21 = some (.getfield 21) := by decide +kernel
theorem rv77g_21 : jm_rv 77 (.getfield 21) = (0, 3, 2, 0) := by decide +kernel
theorem at77_24 : jm_at 77 24 = some (.invokevirtual 63) := by decide +kernel
theorem rv77i_63 : jm_rv 77 (.invokevirtual 63) = (2, 70, 0, 0) := by decide +kernel
theorem u77_20 {S : Option (Nat × (Nat → Int32))} {H : jm_H} {Q : Option Value → jm_H → Prop} {r0 : Nat} (h0 : jm_tg H r0 = 4) (h1 : ¬ jm_R H r0 2 = 0) (h2 : jm_tg H (jm_R H r0 2) = 3) : jm_w S 3 77 20 [.ref r0, .null, .null, .null, .null, .null, .null, .null] [] H Q = jm_c S 70 [.ref (jm_R H r0 2)] H (fun v G => jm_w S 3 77 27 [.ref r0, .null, .null, .null, .null, .null, .null, .null] (v.toList ++ []) G Q) := (js1 at77_20 rfl rfl rfl).trans ((jsgR (H := H) at77_21 rv77g_21 rfl h0 h1 rfl).trans (jscall (H := H) (as := [.ref (jm_R H r0 2)]) (q := []) at77_24 rfl rv77i_63 (jscutV rfl rfl rfl (Nat.le_of_ble_eq_true rfl) rfl h2) rfl (Nat.le_of_ble_eq_true rfl) rfl rfl))
theorem at77_27 : jm_at 77 27 = some (.return_) := by decide +kernel
theorem u77_27 {S : Option (Nat × (Nat → Int32))} {H : jm_H} {Q : Option Value → jm_H → Prop} {r0 : Nat} : jm_w S 3 77 27 [.ref r0, .null, .null, .null, .null, .null, .null, .null] [] H Q = Q none H := jsret_v at77_27 rfl
theorem at77_28 : jm_at 77 28 = some (.bipush 40) := by decide +kernel
theorem at77_30 : jm_at 77 30 = some (.aload_n 0) := by decide +kernel
theorem at77_31 : jm_at 77 31 = some (.getfield 12) := by decide +kernel
theorem at77_34 : jm_at 77 34 = some (.getfield 52) := by decide +kernel
theorem rv77g_52 : jm_rv 77 (.getfield 52) = (0, 2, 4, 0) := by decide +kernel
theorem at77_37 : jm_at 77 37 = some (.iconst 1) := by decide +kernel
theorem at77_38 : jm_at 77 38 = some (.iand) := by decide +kernel
theorem at77_39 : jm_at 77 39 = some (.iadd) := by decide +kernel
theorem at77_40 : jm_at 77 40 = some (.istore_n 1) := by decide +kernel
theorem at77_41 : jm_at 77 41 = some (.aload_n 0) := by decide +kernel
theorem at77_42 : jm_at 77 42 = some (.getfield 12) := by decide +kernel
theorem at77_45 : jm_at 77 45 = some (.getfield 70) := by decide +kernel
theorem rv77g_70 : jm_rv 77 (.getfield 70) = (0, 2, 3, 0) := by decide +kernel
theorem at77_48 : jm_at 77 48 = some (.iload_n 1) := by decide +kernel
theorem at77_49 : jm_at 77 49 = some (.lshl) := by decide +kernel
theorem at77_50 : jm_at 77 50 = some (.lstore_n 2) := by decide +kernel
theorem at77_51 : jm_at 77 51 = some (.lload_n 2) := by decide +kernel
theorem at77_52 : jm_at 77 52 = some (.invokestatic 92) := by decide +kernel
theorem rv77i_92 : jm_rv 77 (.invokestatic 92) = (1, 78, 0, 0) := by decide +kernel
theorem u77_28 {S : Option (Nat × (Nat → Int32))} {H : jm_H} {Q : Option Value → jm_H → Prop} {r0 : Nat} (h0 : jm_tg H r0 = 4) (h1 : ¬ jm_R H r0 0 = 0) (h2 : jm_tg H (jm_R H r0 0) = 3) : jm_w S 3 77 28 [.ref r0, .null, .null, .null, .null, .null, .null, .null] [] H Q = jm_c S 78 [.long ((jm_L H (jm_R H r0 0) 3) <<< (Int32.toInt64 ((40 : Int32) + ((jm_I H (jm_R H r0 0) 4) &&& (1 : Int32))) &&& 63))] H (fun v G => jm_w S 3 77 55 [.ref r0, .int ((40 : Int32) + ((jm_I H (jm_R H r0 0) 4) &&& (1 : Int32))), .long ((jm_L H (jm_R H r0 0) 3) <<< (Int32.toInt64 ((40 : Int32) + ((jm_I H (jm_R H r0 0) 4) &&& (1 : Int32))) &&& 63)), .null, .null, .null, .null, .null] (v.toList ++ []) G Q) := (jscb at77_28 rfl rfl).trans ((js1 at77_30 rfl rfl rfl).trans ((jsgR (H := H) at77_31 rv77g_12 rfl h0 h1 rfl).trans ((jsgI (H := H) at77_34 rv77g_52 (Or.inl rfl) h2 rfl).trans ((jsci at77_37 rfl rfl).trans ((js0 at77_38 rfl rfl rfl).trans ((js0 at77_39 rfl rfl rfl).trans ((js1 at77_40 rfl rfl rfl).trans ((js1 at77_41 rfl rfl rfl).trans ((jsgR (H := H) at77_42 rv77g_12 rfl h0 h1 rfl).trans ((jsgL (H := H) at77_45 rv77g_70 rfl h2 rfl).trans ((js1 at77_48 rfl rfl rfl).trans ((js0 at77_49 rfl rfl rfl).trans ((js1 at77_50 rfl rfl rfl).trans ((js1 at77_51 rfl rfl rfl).trans (jscall (H := H) (as := [.long ((jm_L H (jm_R H r0 0) 3) <<< (Int32.toInt64 ((40 : Int32) + ((jm_I H (jm_R H r0 0) 4) &&& (1 : Int32))) &&& 63))]) (q := []) at77_52 rfl rv77i_92 (jscut rfl rfl rfl (Nat.le_of_ble_eq_true rfl)) rfl (Nat.le_of_ble_eq_true rfl) rfl rfl)))))))))))))))
theorem at77_55 : jm_at 77 55 = some (.lstore 4) := by decide +kernel
theorem at77_57 : jm_at 77 57 = some (.lload 4) := by decide +kernel
theorem at77_59 : jm_at 77 59 = some (.lload 4) := by decide +kernel
theorem at77_61 : jm_at 77 61 = some (.lmul) := by decide +kernel
theorem at77_62 : jm_at 77 62 = some (.lload_n 2) := by decide +kernel
theorem at77_63 : jm_at 77 63 = some (.lcmp) := by decide +kernel
theorem at77_64 : jm_at 77 64 = some (.ifCond .ne 7) := by decide +kernel
theorem u77_55 {S : Option (Nat × (Nat → Int32))} {H : jm_H} {Q : Option Value → jm_H → Prop} {r0 : Nat} {x1 : Int32} {y2 q0 : Int64} : jm_w S 3 77 55 [.ref r0, .int x1, .long y2, .null, .null, .null, .null, .null] [.long q0] H Q = if ¬ (lg_cmp (q0 * q0) y2) = 0 then jm_w S 3 77 71 [.ref r0, .int x1, .long y2, .null, .long q0, .null, .null, .null] [] H Q else jm_w S 3 77 67 [.ref r0, .int x1, .long y2, .null, .long q0, .null, .null, .null] [] H Q := (js1 at77_55 rfl rfl rfl).trans ((js1 at77_57 rfl rfl rfl).trans ((js1 at77_59 rfl rfl rfl).trans ((js0 at77_61 rfl rfl rfl).trans ((js1 at77_62 rfl rfl rfl).trans ((js0 at77_63 rfl rfl rfl).trans (jsif (P := ¬ (lg_cmp (q0 * q0) y2) = 0) at77_64 rfl rfl))))))
theorem at77_67 : jm_at 77 67 = some (.lconst 0) := by decide +kernel
theorem at77_68 : jm_at 77 68 = some (.goto 4) := by decide +kernel
theorem u77_67 {S : Option (Nat × (Nat → Int32))} {H : jm_H} {Q : Option Value → jm_H → Prop} {r0 : Nat} {x1 : Int32} {y2 y4 : Int64} : jm_w S 3 77 67 [.ref r0, .int x1, .long y2, .null, .long y4, .null, .null, .null] [] H Q = jm_w S 3 77 72 [.ref r0, .int x1, .long y2, .null, .long y4, .null, .null, .null] [.long (0 : Int64)] H Q := (jscl at77_67 rfl rfl).trans (js2 at77_68 rfl rfl)
theorem at77_71 : jm_at 77 71 = some (.lconst 1) := by decide +kernel
theorem u77_71 {S : Option (Nat × (Nat → Int32))} {H : jm_H} {Q : Option Value → jm_H → Prop} {r0 : Nat} {x1 : Int32} {y2 y4 : Int64} : jm_w S 3 77 71 [.ref r0, .int x1, .long y2, .null, .long y4, .null, .null, .null] [] H Q = jm_w S 3 77 72 [.ref r0, .int x1, .long y2, .null, .long y4, .null, .null, .null] [.long (1 : Int64)] H Q := jscl at77_71 rfl rfl
theorem at77_72 : jm_at 77 72 = some (.lstore 6) := by decide +kernel
theorem at77_74 : jm_at 77 74 = some (.aload_n 0) := by decide +kernel
theorem at77_75 : jm_at 77 75 = some (.getfield 21) := by decide +kernel
theorem at77_78 : jm_at 77 78 = some (.aload_n 0) := by decide +kernel
theorem at77_79 : jm_at 77 79 = some (.getfield 12) := by decide +kernel
theorem at77_82 : jm_at 77 82 = some (.getfield 31) := by decide +kernel
theorem at77_85 : jm_at 77 85 = some (.lload 4) := by decide +kernel
theorem at77_87 : jm_at 77 87 = some (.lload 6) := by decide +kernel
theorem at77_89 : jm_at 77 89 = some (.lor) := by decide +kernel
theorem at77_90 : jm_at 77 90 = some (.aload_n 0) := by decide +kernel
theorem at77_91 : jm_at 77 91 = some (.getfield 12) := by decide +kernel
theorem at77_94 : jm_at 77 94 = some (.getfield 52) := by decide +kernel
theorem at77_97 : jm_at 77 97 = some (.iload_n 1) := by decide +kernel
theorem at77_98 : jm_at 77 98 = some (.isub) := by decide +kernel
theorem at77_99 : jm_at 77 99 = some (.iconst 1) := by decide +kernel
theorem at77_100 : jm_at 77 100 = some (.ishr) := by decide +kernel
theorem at77_101 : jm_at 77 101 = some (.invokevirtual 88) := by decide +kernel
theorem rv77i_88 : jm_rv 77 (.invokevirtual 88) = (2, 48, 0, 0) := by decide +kernel
theorem u77_72 {S : Option (Nat × (Nat → Int32))} {H : jm_H} {Q : Option Value → jm_H → Prop} {r0 : Nat} {x1 : Int32} {y2 y4 q0 : Int64} (h0 : jm_tg H r0 = 4) (h1 : ¬ jm_R H r0 2 = 0) (h2 : ¬ jm_R H r0 0 = 0) (h3 : jm_tg H (jm_R H r0 0) = 3) (h4 : jm_tg H (jm_R H r0 2) = 3) : jm_w S 3 77 72 [.ref r0, .int x1, .long y2, .null, .long y4, .null, .null, .null] [.long q0] H Q = jm_c S 48 [.ref (jm_R H r0 2), .int (jm_I H (jm_R H r0 0) 2), .long (y4 ||| q0), .int (((jm_I H (jm_R H r0 0) 4) - x1) >>> ((1 : Int32) &&& 31))] H (fun v G => jm_w S 3 77 104 [.ref r0, .int x1, .long y2, .null, .long y4, .null, .long q0, .null] (v.toList ++ []) G Q) := (js1 at77_72 rfl rfl rfl).trans ((js1 at77_74 rfl rfl rfl).trans ((jsgR (H := H) at77_75 rv77g_21 rfl h0 h1 rfl).trans ((js1 at77_78 rfl rfl rfl).trans ((jsgR (H := H) at77_79 rv77g_12 rfl h0 h2 rfl).trans ((jsgI (H := H) at77_82 rv77g_31 (Or.inl rfl) h3 rfl).trans ((js1 at77_85 rfl rfl rfl).trans ((js1 at77_87 rfl rfl rfl).trans ((js0 at77_89 rfl rfl rfl).trans ((js1 at77_90 rfl rfl rfl).trans ((jsgR (H := H) at77_91 rv77g_12 rfl h0 h2 rfl).trans ((jsgI (H := H) at77_94 rv77g_52 (Or.inl rfl) h3 rfl).trans ((js1 at77_97 rfl rfl rfl).trans ((js0 at77_98 rfl rfl rfl).trans ((jsci at77_99 rfl rfl).trans ((js0 at77_100 rfl rfl rfl).trans (jscall (H := H) (as := [.ref (jm_R H r0 2), .int (jm_I H (jm_R H r0 0) 2), .long (y4 ||| q0), .int (((jm_I H (jm_R H r0 0) 4) - x1) >>> ((1 : Int32) &&& 31))]) (q := []) at77_101 rfl rv77i_88 (jscutV rfl rfl rfl (Nat.le_of_ble_eq_true rfl) rfl h4) rfl (Nat.le_of_ble_eq_true rfl) rfl rfl))))))))))))))))
theorem at77_104 : jm_at 77 104 = some (.return_) := by decide +kernel
theorem u77_104 {S : Option (Nat × (Nat → Int32))} {H : jm_H} {Q : Option Value → jm_H → Prop} {r0 : Nat} {x1 : Int32} {y2 y4 y6 : Int64} : jm_w S 3 77 104 [.ref r0, .int x1, .long y2, .null, .long y4, .null, .long y6, .null] [] H Q = Q none H := jsret_v at77_104 rfl
theorem en77 {S : Option (Nat × (Nat → Int32))} {H : jm_H} {Q : Option Value → jm_H → Prop} {r0 : Nat} : jm_c S 77 [.ref r0] H Q = jm_w S 3 77 0 [.ref r0, .null, .null, .null, .null, .null, .null, .null] [] H Q := rfl
theorem at78_0 : jm_at 78 0 = some (.lconst 0) := by decide +kernel
theorem at78_1 : jm_at 78 1 = some (.lstore_n 2) := by decide +kernel
theorem at78_2 : jm_at 78 2 = some (.bipush 30) := by decide +kernel
theorem at78_4 : jm_at 78 4 = some (.istore 4) := by decide +kernel
theorem u78_0 {S : Option (Nat × (Nat → Int32))} {H : jm_H} {Q : Option Value → jm_H → Prop} {y0 : Int64} : jm_w S 1 78 0 [.long y0, .null, .null, .null, .null, .null, .null] [] H Q = jm_w S 1 78 6 [.long y0, .null, .long (0 : Int64), .null, .int (30 : Int32), .null, .null] [] H Q := (jscl at78_0 rfl rfl).trans ((js1 at78_1 rfl rfl rfl).trans ((jscb at78_2 rfl rfl).trans (js1 at78_4 rfl rfl rfl)))
theorem at78_6 : jm_at 78 6 = some (.iload 4) := by decide +kernel
theorem at78_8 : jm_at 78 8 = some (.ifCond .lt 30) := by decide +kernel
theorem u78_6 {S : Option (Nat × (Nat → Int32))} {H : jm_H} {Q : Option Value → jm_H → Prop} {y0 y2 : Int64} {x4 : Int32} {w5 : Value} : jm_w S 1 78 6 [.long y0, .null, .long y2, .null, .int x4, w5, .null] [] H Q = if x4 < 0 then jm_w S 1 78 38 [.long y0, .null, .long y2, .null, .int x4, w5, .null] [] H Q else jm_w S 1 78 11 [.long y0, .null, .long y2, .null, .int x4, w5, .null] [] H Q := (js1 at78_6 rfl rfl rfl).trans (jsif (P := x4 < 0) at78_8 rfl rfl)
theorem at78_11 : jm_at 78 11 = some (.lload_n 2) := by decide +kernel
theorem at78_12 : jm_at 78 12 = some (.lconst 1) := by decide +kernel
theorem at78_13 : jm_at 78 13 = some (.iload 4) := by decide +kernel
theorem at78_15 : jm_at 78 15 = some (.lshl) := by decide +kernel
theorem at78_16 : jm_at 78 16 = some (.lor) := by decide +kernel
theorem at78_17 : jm_at 78 17 = some (.lstore 5) := by decide +kernel
theorem at78_19 : jm_at 78 19 = some (.lload 5) := by decide +kernel
theorem at78_21 : jm_at 78 21 = some (.lload 5) := by decide +kernel
theorem at78_23 : jm_at 78 23 = some (.lmul) := by decide +kernel
theorem at78_24 : jm_at 78 24 = some (.lload_n 0) := by decide +kernel
theorem at78_25 : jm_at 78 25 = some (.lcmp) := by decide +kernel
theorem at78_26 : jm_at 78 26 = some (.ifCond .gt 6) := by decide +kernel
theorem u78_11 {S : Option (Nat × (Nat → Int32))} {H : jm_H} {Q : Option Value → jm_H → Prop} {y0 y2 : Int64} {x4 : Int32} {w5 : Value} : jm_w S 1 78 11 [.long y0, .null, .long y2, .null, .int x4, w5, .null] [] H Q = if 0 < (lg_cmp ((y2 ||| ((1 : Int64) <<< (Int32.toInt64 x4 &&& 63))) * (y2 ||| ((1 : Int64) <<< (Int32.toInt64 x4 &&& 63)))) y0) then jm_w S 1 78 32 [.long y0, .null, .long y2, .null, .int x4, .long (y2 ||| ((1 : Int64) <<< (Int32.toInt64 x4 &&& 63))), .null] [] H Q else jm_w S 1 78 29 [.long y0, .null, .long y2, .null, .int x4, .long (y2 ||| ((1 : Int64) <<< (Int32.toInt64 x4 &&& 63))), .null] [] H Q := (js1 at78_11 rfl rfl rfl).trans ((jscl at78_12 rfl rfl).trans ((js1 at78_13 rfl rfl rfl).trans ((js0 at78_15 rfl rfl rfl).trans ((js0 at78_16 rfl rfl rfl).trans ((js1 at78_17 rfl rfl rfl).trans ((js1 at78_19 rfl rfl rfl).trans ((js1 at78_21 rfl rfl rfl).trans ((js0 at78_23 rfl rfl rfl).trans ((js1 at78_24 rfl rfl rfl).trans ((js0 at78_25 rfl rfl rfl).trans (jsif (P := 0 < (lg_cmp ((y2 ||| ((1 : Int64) <<< (Int32.toInt64 x4 &&& 63))) * (y2 ||| ((1 : Int64) <<< (Int32.toInt64 x4 &&& 63)))) y0)) at78_26 rfl rfl)))))))))))
theorem at78_29 : jm_at 78 29 = some (.lload 5) := by decide +kernel
theorem at78_31 : jm_at 78 31 = some (.lstore_n 2) := by decide +kernel
theorem u78_29 {S : Option (Nat × (Nat → Int32))} {H : jm_H} {Q : Option Value → jm_H → Prop} {y0 y2 y5 : Int64} {x4 : Int32} : jm_w S 1 78 29 [.long y0, .null, .long y2, .null, .int x4, .long y5, .null] [] H Q = jm_w S 1 78 32 [.long y0, .null, .long y5, .null, .int x4, .long y5, .null] [] H Q := (js1 at78_29 rfl rfl rfl).trans (js1 at78_31 rfl rfl rfl)
theorem at78_32 : jm_at 78 32 = some (.iinc 4 (-1)) := by decide +kernel
theorem at78_35 : jm_at 78 35 = some (.goto (-29)) := by decide +kernel
theorem u78_32 {S : Option (Nat × (Nat → Int32))} {H : jm_H} {Q : Option Value → jm_H → Prop} {y0 y2 y5 : Int64} {x4 : Int32} : jm_w S 1 78 32 [.long y0, .null, .long y2, .null, .int x4, .long y5, .null] [] H Q = jm_w S 1 78 6 [.long y0, .null, .long y2, .null, .int (x4 + (-1)), .long y5, .null] [] H Q := (jsinc at78_32 rfl rfl rfl).trans (js2 at78_35 rfl rfl)
theorem at78_38 : jm_at 78 38 = some (.lload_n 2) := by decide +kernel
theorem at78_39 : jm_at 78 39 = some (.lreturn) := by decide +kernel
theorem u78_38 {S : Option (Nat × (Nat → Int32))} {H : jm_H} {Q : Option Value → jm_H → Prop} {y0 y2 : Int64} {x4 : Int32} {w5 : Value} : jm_w S 1 78 38 [.long y0, .null, .long y2, .null, .int x4, w5, .null] [] H Q = Q (some (.long y2)) H := (js1 at78_38 rfl rfl rfl).trans (jsret_l at78_39 rfl)
theorem en78 {S : Option (Nat × (Nat → Int32))} {H : jm_H} {Q : Option Value → jm_H → Prop} {y0 : Int64} : jm_c S 78 [.long y0] H Q = jm_w S 1 78 0 [.long y0, .null, .null, .null, .null, .null, .null] [] H Q := rfl
theorem at87_0 : jm_at 87 0 = some (.aload_n 0) := by decide +kernel
theorem at87_1 : jm_at 87 1 = some (.getfield 12) := by decide +kernel
theorem rv87g_12 : jm_rv 87 (.getfield 12) = (0, 3, 0, 0) := by decide +kernel
theorem at87_4 : jm_at 87 4 = some (.iload_n 1) := by decide +kernel
theorem at87_5 : jm_at 87 5 = some (.iload_n 2) := by decide +kernel
theorem at87_6 : jm_at 87 6 = some (.iload_n 3) := by decide +kernel
theorem at87_7 : jm_at 87 7 = some (.invokevirtual 24) := by decide +kernel
theorem rv87i_24 : jm_rv 87 (.invokevirtual 24) = (2, 68, 0, 0) := by decide +kernel
theorem u87_0 {S : Option (Nat × (Nat → Int32))} {H : jm_H} {Q : Option Value → jm_H → Prop} {r0 : Nat} {x1 x2 x3 x4 x5 : Int32} (h0 : jm_tg H r0 = 4) (h1 : ¬ jm_R H r0 0 = 0) (h2 : jm_tg H (jm_R H r0 0) = 3) : jm_w S 6 87 0 [.ref r0, .int x1, .int x2, .int x3, .int x4, .int x5] [] H Q = jm_c S 68 [.ref (jm_R H r0 0), .int x1, .int x2, .int x3] H (fun v G => jm_w S 6 87 10 [.ref r0, .int x1, .int x2, .int x3, .int x4, .int x5] (v.toList ++ []) G Q) := (js1 at87_0 rfl rfl rfl).trans ((jsgR (H := H) at87_1 rv87g_12 rfl h0 h1 rfl).trans ((js1 at87_4 rfl rfl rfl).trans ((js1 at87_5 rfl rfl rfl).trans ((js1 at87_6 rfl rfl rfl).trans (jscall (H := H) (as := [.ref (jm_R H r0 0), .int x1, .int x2, .int x3]) (q := []) at87_7 rfl rv87i_24 (jscutV rfl rfl rfl (Nat.le_of_ble_eq_true rfl) rfl h2) rfl (Nat.le_of_ble_eq_true rfl) rfl rfl)))))
theorem at87_10 : jm_at 87 10 = some (.aload_n 0) := by decide +kernel
theorem at87_11 : jm_at 87 11 = some (.getfield 18) := by decide +kernel
theorem rv87g_18 : jm_rv 87 (.getfield 18) = (0, 3, 1, 0) := by decide +kernel
theorem at87_14 : jm_at 87 14 = some (.iload_n 1) := by decide +kernel
theorem at87_15 : jm_at 87 15 = some (.iload_n 2) := by decide +kernel
theorem at87_16 : jm_at 87 16 = some (.iload 4) := by decide +kernel
theorem at87_18 : jm_at 87 18 = some (.invokevirtual 24) := by decide +kernel
theorem u87_10 {S : Option (Nat × (Nat → Int32))} {H : jm_H} {Q : Option Value → jm_H → Prop} {r0 : Nat} {x1 x2 x3 x4 x5 : Int32} (h0 : jm_tg H r0 = 4) (h1 : ¬ jm_R H r0 1 = 0) (h2 : jm_tg H (jm_R H r0 1) = 3) : jm_w S 6 87 10 [.ref r0, .int x1, .int x2, .int x3, .int x4, .int x5] [] H Q = jm_c S 68 [.ref (jm_R H r0 1), .int x1, .int x2, .int x4] H (fun v G => jm_w S 6 87 21 [.ref r0, .int x1, .int x2, .int x3, .int x4, .int x5] (v.toList ++ []) G Q) := (js1 at87_10 rfl rfl rfl).trans ((jsgR (H := H) at87_11 rv87g_18 rfl h0 h1 rfl).trans ((js1 at87_14 rfl rfl rfl).trans ((js1 at87_15 rfl rfl rfl).trans ((js1 at87_16 rfl rfl rfl).trans (jscall (H := H) (as := [.ref (jm_R H r0 1), .int x1, .int x2, .int x4]) (q := []) at87_18 rfl rv87i_24 (jscutV rfl rfl rfl (Nat.le_of_ble_eq_true rfl) rfl h2) rfl (Nat.le_of_ble_eq_true rfl) rfl rfl)))))
theorem at87_21 : jm_at 87 21 = some (.iload 5) := by decide +kernel
theorem u87_21 {S : Option (Nat × (Nat → Int32))} {H : jm_H} {Q : Option Value → jm_H → Prop} {r0 : Nat} {x1 x2 x3 x4 x5 : Int32} : jm_w S 6 87 21 [.ref r0, .int x1, .int x2, .int x3, .int x4, .int x5] [] H Q = jm_w S 6 87 23 [.ref r0, .int x1, .int x2, .int x3, .int x4, .int x5] [.int x5] H Q := js1 at87_21 rfl rfl rfl
theorem at87_23 : jm_at 87 23 = some (.tableswitch 61 0 2 #[25, 32, 54]) := by decide +kernel
theorem u87_23_0 {S : Option (Nat × (Nat → Int32))} {H : jm_H} {Q : Option Value → jm_H → Prop} {r0 : Nat} {x1 x2 x3 x4 x5 : Int32} : jm_w S 6 87 23 [.ref r0, .int x1, .int x2, .int x3, .int x4, .int x5] [.int 0] H Q = jm_w S 6 87 48 [.ref r0, .int x1, .int x2, .int x3, .int x4, .int x5] [] H Q := js2 at87_23 rfl rfl
theorem u87_23_1 {S : Option (Nat × (Nat → Int32))} {H : jm_H} {Q : Option Value → jm_H → Prop} {r0 : Nat} {x1 x2 x3 x4 x5 : Int32} : jm_w S 6 87 23 [.ref r0, .int x1, .int x2, .int x3, .int x4, .int x5] [.int 1] H Q = jm_w S 6 87 55 [.ref r0, .int x1, .int x2, .int x3, .int x4, .int x5] [] H Q := js2 at87_23 rfl rfl
theorem u87_23_2 {S : Option (Nat × (Nat → Int32))} {H : jm_H} {Q : Option Value → jm_H → Prop} {r0 : Nat} {x1 x2 x3 x4 x5 : Int32} : jm_w S 6 87 23 [.ref r0, .int x1, .int x2, .int x3, .int x4, .int x5] [.int 2] H Q = jm_w S 6 87 77 [.ref r0, .int x1, .int x2, .int x3, .int x4, .int x5] [] H Q := js2 at87_23 rfl rfl
theorem u87_23_d {S : Option (Nat × (Nat → Int32))} {H : jm_H} {Q : Option Value → jm_H → Prop} {r0 : Nat} {x1 x2 x3 x4 x5 p0 : Int32} (h : Int32.toInt p0 < 0 ∨ 2 < Int32.toInt p0) : jm_w S 6 87 23 [.ref r0, .int x1, .int x2, .int x3, .int x4, .int x5] [.int p0] H Q = jm_w S 6 87 84 [.ref r0, .int x1, .int x2, .int x3, .int x4, .int x5] [] H Q := js2 at87_23 rfl ((if_pos h).trans rfl)
theorem at87_48 : jm_at 87 48 = some (.aload_n 0) := by decide +kernel
theorem at87_49 : jm_at 87 49 = some (.invokevirtual 28) := by decide +kernel
theorem rv87i_28 : jm_rv 87 (.invokevirtual 28) = (2, 88, 0, 0) := by decide +kernel
theorem u87_48 {S : Option (Nat × (Nat → Int32))} {H : jm_H} {Q : Option Value → jm_H → Prop} {r0 : Nat} {x1 x2 x3 x4 x5 : Int32} (h0 : jm_tg H r0 = 4) : jm_w S 6 87 48 [.ref r0, .int x1, .int x2, .int x3, .int x4, .int x5] [] H Q = jm_c S 88 [.ref r0] H (fun v G => jm_w S 6 87 52 [.ref r0, .int x1, .int x2, .int x3, .int x4, .int x5] (v.toList ++ []) G Q) := (js1 at87_48 rfl rfl rfl).trans (jscall (H := H) (as := [.ref r0]) (q := []) at87_49 rfl rv87i_28 (jscutV rfl rfl rfl (Nat.le_of_ble_eq_true rfl) rfl h0) rfl (Nat.le_of_ble_eq_true rfl) rfl rfl)
theorem at87_52 : jm_at 87 52 = some (.goto 36) := by decide +kernel
theorem u87_52 {S : Option (Nat × (Nat → Int32))} {H : jm_H} {Q : Option Value → jm_H → Prop} {r0 : Nat} {x1 x2 x3 x4 x5 : Int32} : jm_w S 6 87 52 [.ref r0, .int x1, .int x2, .int x3, .int x4, .int x5] [] H Q = jm_w S 6 87 88 [.ref r0, .int x1, .int x2, .int x3, .int x4, .int x5] [] H Q := js2 at87_52 rfl rfl
theorem at87_55 : jm_at 87 55 = some (.aload_n 0) := by decide +kernel
theorem at87_56 : jm_at 87 56 = some (.getfield 18) := by decide +kernel
theorem at87_59 : jm_at 87 59 = some (.aload_n 0) := by decide +kernel
theorem at87_60 : jm_at 87 60 = some (.getfield 18) := by decide +kernel
theorem at87_63 : jm_at 87 63 = some (.getfield 31) := by decide +kernel
theorem rv87g_31 : jm_rv 87 (.getfield 31) = (0, 2, 2, 0) := by decide +kernel
theorem at87_66 : jm_at 87 66 = some (.ineg) := by decide +kernel
theorem at87_67 : jm_at 87 67 = some (.putfield 31) := by decide +kernel
theorem rv87p_31 : jm_rv 87 (.putfield 31) = (0, 2, 2, 0) := by decide +kernel
theorem at87_70 : jm_at 87 70 = some (.aload_n 0) := by decide +kernel
theorem at87_71 : jm_at 87 71 = some (.invokevirtual 28) := by decide +kernel
theorem u87_55 {S : Option (Nat × (Nat → Int32))} {H : jm_H} {Q : Option Value → jm_H → Prop} {r0 : Nat} {x1 x2 x3 x4 x5 : Int32} (h0 : jm_tg H r0 = 4) (h1 : ¬ jm_R H r0 1 = 0) (h2 : jm_tg H (jm_R H r0 1) = 3) : jm_w S 6 87 55 [.ref r0, .int x1, .int x2, .int x3, .int x4, .int x5] [] H Q = jm_c S 88 [.ref r0] (jm_pI H (jm_R H r0 1) 2 (-(jm_I H (jm_R H r0 1) 2))) (fun v G => jm_w S 6 87 74 [.ref r0, .int x1, .int x2, .int x3, .int x4, .int x5] (v.toList ++ []) G Q) := (js1 at87_55 rfl rfl rfl).trans ((jsgR (H := H) at87_56 rv87g_18 rfl h0 h1 rfl).trans ((js1 at87_59 rfl rfl rfl).trans ((jsgR (H := H) at87_60 rv87g_18 rfl h0 h1 rfl).trans ((jsgI (H := H) at87_63 rv87g_31 (Or.inl rfl) h2 rfl).trans ((js0 at87_66 rfl rfl rfl).trans ((jspI (H := H) at87_67 rv87p_31 rfl h2 rfl).trans ((js1 at87_70 rfl rfl rfl).trans (jscall (H := (jm_pI H (jm_R H r0 1) 2 (-(jm_I H (jm_R H r0 1) 2)))) (as := [.ref r0]) (q := []) at87_71 rfl rv87i_28 (jscutV rfl rfl rfl (Nat.le_of_ble_eq_true rfl) rfl h0) rfl (Nat.le_of_ble_eq_true rfl) rfl rfl))))))))
theorem at87_74 : jm_at 87 74 = some (.goto 14) := by decide +kernel
theorem u87_74 {S : Option (Nat × (Nat → Int32))} {H : jm_H} {Q : Option Value → jm_H → Prop} {r0 : Nat} {x1 x2 x3 x4 x5 : Int32} : jm_w S 6 87 74 [.ref r0, .int x1, .int x2, .int x3, .int x4, .int x5] [] H Q = jm_w S 6 87 88 [.ref r0, .int x1, .int x2, .int x3, .int x4, .int x5] [] H Q := js2 at87_74 rfl rfl
theorem at87_77 : jm_at 87 77 = some (.aload_n 0) := by decide +kernel
theorem at87_78 : jm_at 87 78 = some (.invokevirtual 35) := by decide +kernel
theorem rv87i_35 : jm_rv 87 (.invokevirtual 35) = (2, 89, 0, 0) := by decide +kernel
theorem u87_77 {S : Option (Nat × (Nat → Int32))} {H : jm_H} {Q : Option Value → jm_H → Prop} {r0 : Nat} {x1 x2 x3 x4 x5 : Int32} (h0 : jm_tg H r0 = 4) : jm_w S 6 87 77 [.ref r0, .int x1, .int x2, .int x3, .int x4, .int x5] [] H Q = jm_c S 89 [.ref r0] H (fun v G => jm_w S 6 87 81 [.ref r0, .int x1, .int x2, .int x3, .int x4, .int x5] (v.toList ++ []) G Q) := (js1 at87_77 rfl rfl rfl).trans (jscall (H := H) (as := [.ref r0]) (q := []) at87_78 rfl rv87i_35 (jscutV rfl rfl rfl (Nat.le_of_ble_eq_true rfl) rfl h0) rfl (Nat.le_of_ble_eq_true rfl) rfl rfl)
theorem at87_81 : jm_at 87 81 = some (.goto 7) := by decide +kernel
theorem u87_81 {S : Option (Nat × (Nat → Int32))} {H : jm_H} {Q : Option Value → jm_H → Prop} {r0 : Nat} {x1 x2 x3 x4 x5 : Int32} : jm_w S 6 87 81 [.ref r0, .int x1, .int x2, .int x3, .int x4, .int x5] [] H Q = jm_w S 6 87 88 [.ref r0, .int x1, .int x2, .int x3, .int x4, .int x5] [] H Q := js2 at87_81 rfl rfl
theorem at87_84 : jm_at 87 84 = some (.aload_n 0) := by decide +kernel
theorem at87_85 : jm_at 87 85 = some (.invokevirtual 38) := by decide +kernel
theorem rv87i_38 : jm_rv 87 (.invokevirtual 38) = (2, 90, 0, 0) := by decide +kernel
theorem u87_84 {S : Option (Nat × (Nat → Int32))} {H : jm_H} {Q : Option Value → jm_H → Prop} {r0 : Nat} {x1 x2 x3 x4 x5 : Int32} (h0 : jm_tg H r0 = 4) : jm_w S 6 87 84 [.ref r0, .int x1, .int x2, .int x3, .int x4, .int x5] [] H Q = jm_c S 90 [.ref r0] H (fun v G => jm_w S 6 87 88 [.ref r0, .int x1, .int x2, .int x3, .int x4, .int x5] (v.toList ++ []) G Q) := (js1 at87_84 rfl rfl rfl).trans (jscall (H := H) (as := [.ref r0]) (q := []) at87_85 rfl rv87i_38 (jscutV rfl rfl rfl (Nat.le_of_ble_eq_true rfl) rfl h0) rfl (Nat.le_of_ble_eq_true rfl) rfl rfl)
theorem at87_88 : jm_at 87 88 = some (.aload_n 0) := by decide +kernel
theorem at87_89 : jm_at 87 89 = some (.iload_n 1) := by decide +kernel
theorem at87_90 : jm_at 87 90 = some (.iload_n 2) := by decide +kernel
theorem at87_91 : jm_at 87 91 = some (.aload_n 0) := by decide +kernel
theorem at87_92 : jm_at 87 92 = some (.getfield 21) := by decide +kernel
theorem rv87g_21 : jm_rv 87 (.getfield 21) = (0, 3, 2, 0) := by decide +kernel
theorem at87_95 : jm_at 87 95 = some (.invokevirtual 41) := by decide +kernel
theorem rv87i_41 : jm_rv 87 (.invokevirtual 41) = (2, 49, 0, 0) := by decide +kernel
theorem u87_88 {S : Option (Nat × (Nat → Int32))} {H : jm_H} {Q : Option Value → jm_H → Prop} {r0 : Nat} {x1 x2 x3 x4 x5 : Int32} (h0 : jm_tg H r0 = 4) (h1 : ¬ jm_R H r0 2 = 0) : jm_w S 6 87 88 [.ref r0, .int x1, .int x2, .int x3, .int x4, .int x5] [] H Q = jm_c S 49 [.ref r0, .int x1, .int x2, .ref (jm_R H r0 2)] H (fun v G => jm_w S 6 87 98 [.ref r0, .int x1, .int x2, .int x3, .int x4, .int x5] (v.toList ++ []) G Q) := (js1 at87_88 rfl rfl rfl).trans ((js1 at87_89 rfl rfl rfl).trans ((js1 at87_90 rfl rfl rfl).trans ((js1 at87_91 rfl rfl rfl).trans ((jsgR (H := H) at87_92 rv87g_21 rfl h0 h1 rfl).trans (jscall (H := H) (as := [.ref r0, .int x1, .int x2, .ref (jm_R H r0 2)]) (q := []) at87_95 rfl rv87i_41 (jscutV rfl rfl rfl (Nat.le_of_ble_eq_true rfl) rfl h0) rfl (Nat.le_of_ble_eq_true rfl) rfl rfl)))))
theorem at87_98 : jm_at 87 98 = some (.ireturn) := by decide +kernel
theorem u87_98 {S : Option (Nat × (Nat → Int32))} {H : jm_H} {Q : Option Value → jm_H → Prop} {r0 : Nat} {x1 x2 x3 x4 x5 p0 : Int32} : jm_w S 6 87 98 [.ref r0, .int x1, .int x2, .int x3, .int x4, .int x5] [.int p0] H Q = Q (some (.int p0)) H := jsret_i at87_98 rfl
theorem en87 {S : Option (Nat × (Nat → Int32))} {H : jm_H} {Q : Option Value → jm_H → Prop} {r0 : Nat} {x1 x2 x3 x4 x5 : Int32} : jm_c S 87 [.ref r0, .int x1, .int x2, .int x3, .int x4, .int x5] H Q = jm_w S 6 87 0 [.ref r0, .int x1, .int x2, .int x3, .int x4, .int x5] [] H Q := rfl
theorem at88_0 : jm_at 88 0 = some (.aload_n 0) := by decide +kernel
theorem at88_1 : jm_at 88 1 = some (.getfield 12) := by decide +kernel
theorem rv88g_12 : jm_rv 88 (.getfield 12) = (0, 3, 0, 0) := by decide +kernel
theorem at88_4 : jm_at 88 4 = some (.getfield 59) := by decide +kernel
theorem rv88g_59 : jm_rv 88 (.getfield 59) = (0, 2, 1, 0) := by decide +kernel
theorem at88_7 : jm_at 88 7 = some (.ifCond .ne 13) := by decide +kernel
theorem u88_0 {S : Option (Nat × (Nat → Int32))} {H : jm_H} {Q : Option Value → jm_H → Prop} {r0 : Nat} (h0 : jm_tg H r0 = 4) (h1 : ¬ jm_R H r0 0 = 0) (h2 : jm_tg H (jm_R H r0 0) = 3) : jm_w S 4 88 0 [.ref r0, .null, .null, .null, .null, .null, .null, .null, .null, .null, .null, .null] [] H Q = if ¬ (jm_I H (jm_R H r0 0) 1) = 0 then jm_w S 4 88 20 [.ref r0, .null, .null, .null, .null, .null, .null, .null, .null, .null, .null, .null] [] H Q else jm_w S 4 88 10 [.ref r0, .null, .null, .null, .null, .null, .null, .null, .null, .null, .null, .null] [] H Q := (js1 at88_0 rfl rfl rfl).trans ((jsgR (H := H) at88_1 rv88g_12 rfl h0 h1 rfl).trans ((jsgI (H := H) at88_4 rv88g_59 (Or.inr rfl) h2 rfl).trans (jsif (P := ¬ (jm_I H (jm_R H r0 0) 1) = 0) at88_7 rfl rfl)))
theorem at88_10 : jm_at 88 10 = some (.aload_n 0) := by decide +kernel
theorem at88_11 : jm_at 88 11 = some (.getfield 18) := by decide +kernel
theorem rv88g_18 : jm_rv 88 (.getfield 18) = (0, 3, 1, 0) := by decide +kernel
theorem at88_14 : jm_at 88 14 = some (.getfield 59) := by decide +kernel
theorem at88_17 : jm_at 88 17 = some (.ifCond .eq 11) := by decide +kernel
theorem u88_10 {S : Option (Nat × (Nat → Int32))} {H : jm_H} {Q : Option Value → jm_H → Prop} {r0 : Nat} (h0 : jm_tg H r0 = 4) (h1 : ¬ jm_R H r0 1 = 0) (h2 : jm_tg H (jm_R H r0 1) = 3) : jm_w S 4 88 10 [.ref r0, .null, .null, .null, .null, .null, .null, .null, .null, .null, .null, .null] [] H Q = if (jm_I H (jm_R H r0 1) 1) = 0 then jm_w S 4 88 28 [.ref r0, .null, .null, .null, .null, .null, .null, .null, .null, .null, .null, .null] [] H Q else jm_w S 4 88 20 [.ref r0, .null, .null, .null, .null, .null, .null, .null, .null, .null, .null, .null] [] H Q := (js1 at88_10 rfl rfl rfl).trans ((jsgR (H := H) at88_11 rv88g_18 rfl h0 h1 rfl).trans ((jsgI (H := H) at88_14 rv88g_59 (Or.inr rfl) h2 rfl).trans (jsif (P := (jm_I H (jm_R H r0 1) 1) = 0) at88_17 rfl rfl)))
theorem at88_20 : jm_at 88 20 = some (.aload_n 0) := by decide +kernel
theorem at88_21 : jm_at 88 21 = some (.getfield 21) := by decide +kernel
theorem rv88g_21 : jm_rv 88 (.getfield 21) = (0, 3, 2, 0) := by decide +kernel
theorem at88_24 : jm_at 88 24 = some (.invokevirtual 63) := by decide +kernel
theorem rv88i_63 : jm_rv 88 (.invokevirtual 63) = (2, 70, 0, 0) := by decide +kernel
theorem u88_20 {S : Option (Nat × (Nat → Int32))} {H : jm_H} {Q : Option Value → jm_H → Prop} {r0 : Nat} (h0 : jm_tg H r0 = 4) (h1 : ¬ jm_R H r0 2 = 0) (h2 : jm_tg H (jm_R H r0 2) = 3) : jm_w S 4 88 20 [.ref r0, .null, .null, .null, .null, .null, .null, .null, .null, .null, .null, .null] [] H Q = jm_c S 70 [.ref (jm_R H r0 2)] H (fun v G => jm_w S 4 88 27 [.ref r0, .null, .null, .null, .null, .null, .null, .null, .null, .null, .null, .null] (v.toList ++ []) G Q) := (js1 at88_20 rfl rfl rfl).trans ((jsgR (H := H) at88_21 rv88g_21 rfl h0 h1 rfl).trans (jscall (H := H) (as := [.ref (jm_R H r0 2)]) (q := []) at88_24 rfl rv88i_63 (jscutV rfl rfl rfl (Nat.le_of_ble_eq_true rfl) rfl h2) rfl (Nat.le_of_ble_eq_true rfl) rfl rfl))
theorem at88_27 : jm_at 88 27 = some (.return_) := by decide +kernel
theorem u88_27 {S : Option (Nat × (Nat → Int32))} {H : jm_H} {Q : Option Value → jm_H → Prop} {r0 : Nat} : jm_w S 4 88 27 [.ref r0, .null, .null, .null, .null, .null, .null, .null, .null, .null, .null, .null] [] H Q = Q none H := jsret_v at88_27 rfl
theorem at88_28 : jm_at 88 28 = some (.aload_n 0) := by decide +kernel
theorem at88_29 : jm_at 88 29 = some (.getfield 12) := by decide +kernel
theorem at88_32 : jm_at 88 32 = some (.getfield 31) := by decide +kernel
theorem rv88g_31 : jm_rv 88 (.getfield 31) = (0, 2, 2, 0) := by decide +kernel
theorem at88_35 : jm_at 88 35 = some (.ifCond .eq 13) := by decide +kernel
theorem u88_28 {S : Option (Nat × (Nat → Int32))} {H : jm_H} {Q : Option Value → jm_H → Prop} {r0 : Nat} (h0 : jm_tg H r0 = 4) (h1 : ¬ jm_R H r0 0 = 0) (h2 : jm_tg H (jm_R H r0 0) = 3) : jm_w S 4 88 28 [.ref r0, .null, .null, .null, .null, .null, .null, .null, .null, .null, .null, .null] [] H Q = if (jm_I H (jm_R H r0 0) 2) = 0 then jm_w S 4 88 48 [.ref r0, .null, .null, .null, .null, .null, .null, .null, .null, .null, .null, .null] [] H Q else jm_w S 4 88 38 [.ref r0, .null, .null, .null, .null, .null, .null, .null, .null, .null, .null, .null] [] H Q := (js1 at88_28 rfl rfl rfl).trans ((jsgR (H := H) at88_29 rv88g_12 rfl h0 h1 rfl).trans ((jsgI (H := H) at88_32 rv88g_31 (Or.inl rfl) h2 rfl).trans (jsif (P := (jm_I H (jm_R H r0 0) 2) = 0) at88_35 rfl rfl)))
theorem at88_38 : jm_at 88 38 = some (.aload_n 0) := by decide +kernel
theorem at88_39 : jm_at 88 39 = some (.getfield 18) := by decide +kernel
theorem at88_42 : jm_at 88 42 = some (.getfield 31) := by decide +kernel
theorem at88_45 : jm_at 88 45 = some (.ifCond .ne 32) := by decide +kernel
theorem u88_38 {S : Option (Nat × (Nat → Int32))} {H : jm_H} {Q : Option Value → jm_H → Prop} {r0 : Nat} (h0 : jm_tg H r0 = 4) (h1 : ¬ jm_R H r0 1 = 0) (h2 : jm_tg H (jm_R H r0 1) = 3) : jm_w S 4 88 38 [.ref r0, .null, .null, .null, .null, .null, .null, .null, .null, .null, .null, .null] [] H Q = if ¬ (jm_I H (jm_R H r0 1) 2) = 0 then jm_w S 4 88 77 [.ref r0, .null, .null, .null, .null, .null, .null, .null, .null, .null, .null, .null] [] H Q else jm_w S 4 88 48 [.ref r0, .null, .null, .null, .null, .null, .null, .null, .null, .null, .null, .null] [] H Q := (js1 at88_38 rfl rfl rfl).trans ((jsgR (H := H) at88_39 rv88g_18 rfl h0 h1 rfl).trans ((jsgI (H := H) at88_42 rv88g_31 (Or.inl rfl) h2 rfl).trans (jsif (P := ¬ (jm_I H (jm_R H r0 1) 2) = 0) at88_45 rfl rfl)))
theorem at88_48 : jm_at 88 48 = some (.aload_n 0) := by decide +kernel
theorem at88_49 : jm_at 88 49 = some (.getfield 21) := by decide +kernel
theorem at88_52 : jm_at 88 52 = some (.aload_n 0) := by decide +kernel
theorem at88_53 : jm_at 88 53 = some (.getfield 12) := by decide +kernel
theorem at88_56 : jm_at 88 56 = some (.getfield 31) := by decide +kernel
theorem at88_59 : jm_at 88 59 = some (.ifCond .ne 10) := by decide +kernel
theorem u88_48 {S : Option (Nat × (Nat → Int32))} {H : jm_H} {Q : Option Value → jm_H → Prop} {r0 : Nat} (h0 : jm_tg H r0 = 4) (h1 : ¬ jm_R H r0 2 = 0) (h2 : ¬ jm_R H r0 0 = 0) (h3 : jm_tg H (jm_R H r0 0) = 3) : jm_w S 4 88 48 [.ref r0, .null, .null, .null, .null, .null, .null, .null, .null, .null, .null, .null] [] H Q = if ¬ (jm_I H (jm_R H r0 0) 2) = 0 then jm_w S 4 88 69 [.ref r0, .null, .null, .null, .null, .null, .null, .null, .null, .null, .null, .null] [.ref (jm_R H r0 2)] H Q else jm_w S 4 88 62 [.ref r0, .null, .null, .null, .null, .null, .null, .null, .null, .null, .null, .null] [.ref (jm_R H r0 2)] H Q := (js1 at88_48 rfl rfl rfl).trans ((jsgR (H := H) at88_49 rv88g_21 rfl h0 h1 rfl).trans ((js1 at88_52 rfl rfl rfl).trans ((jsgR (H := H) at88_53 rv88g_12 rfl h0 h2 rfl).trans ((jsgI (H := H) at88_56 rv88g_31 (Or.inl rfl) h3 rfl).trans (jsif (P := ¬ (jm_I H (jm_R H r0 0) 2) = 0) at88_59 rfl rfl)))))
theorem at88_62 : jm_at 88 62 = some (.aload_n 0) := by decide +kernel
theorem at88_63 : jm_at 88 63 = some (.getfield 18) := by decide +kernel
theorem at88_66 : jm_at 88 66 = some (.goto 7) := by decide +kernel
theorem u88_62 {S : Option (Nat × (Nat → Int32))} {H : jm_H} {Q : Option Value → jm_H → Prop} {r0 o0 : Nat} (h0 : jm_tg H r0 = 4) (h1 : ¬ jm_R H r0 1 = 0) : jm_w S 4 88 62 [.ref r0, .null, .null, .null, .null, .null, .null, .null, .null, .null, .null, .null] [.ref o0] H Q = jm_w S 4 88 73 [.ref r0, .null, .null, .null, .null, .null, .null, .null, .null, .null, .null, .null] [.ref (jm_R H r0 1), .ref o0] H Q := (js1 at88_62 rfl rfl rfl).trans ((jsgR (H := H) at88_63 rv88g_18 rfl h0 h1 rfl).trans (js2 at88_66 rfl rfl))
theorem at88_69 : jm_at 88 69 = some (.aload_n 0) := by decide +kernel
theorem at88_70 : jm_at 88 70 = some (.getfield 12) := by decide +kernel
theorem u88_69 {S : Option (Nat × (Nat → Int32))} {H : jm_H} {Q : Option Value → jm_H → Prop} {r0 o0 : Nat} (h0 : jm_tg H r0 = 4) (h1 : ¬ jm_R H r0 0 = 0) : jm_w S 4 88 69 [.ref r0, .null, .null, .null, .null, .null, .null, .null, .null, .null, .null, .null] [.ref o0] H Q = jm_w S 4 88 73 [.ref r0, .null, .null, .null, .null, .null, .null, .null, .null, .null, .null, .null] [.ref (jm_R H r0 0), .ref o0] H Q := (js1 at88_69 rfl rfl rfl).trans (jsgR (H := H) at88_70 rv88g_12 rfl h0 h1 rfl)
theorem at88_73 : jm_at 88 73 = some (.invokevirtual 55) := by decide +kernel
theorem rv88i_55 : jm_rv 88 (.invokevirtual 55) = (2, 51, 0, 0) := by decide +kernel
theorem u88_73 {S : Option (Nat × (Nat → Int32))} {H : jm_H} {Q : Option Value → jm_H → Prop} {r0 o0 o1 : Nat} (h0 : jm_tg H o0 = 3) : jm_w S 4 88 73 [.ref r0, .null, .null, .null, .null, .null, .null, .null, .null, .null, .null, .null] [.ref o1, .ref o0] H Q = jm_c S 51 [.ref o0, .ref o1] H (fun v G => jm_w S 4 88 76 [.ref r0, .null, .null, .null, .null, .null, .null, .null, .null, .null, .null, .null] (v.toList ++ []) G Q) := jscall (H := H) (as := [.ref o0, .ref o1]) (q := []) at88_73 rfl rv88i_55 (jscutV rfl rfl rfl (Nat.le_of_ble_eq_true rfl) rfl h0) rfl (Nat.le_of_ble_eq_true rfl) rfl rfl
theorem at88_76 : jm_at 88 76 = some (.return_) := by decide +kernel
theorem u88_76 {S : Option (Nat × (Nat → Int32))} {H : jm_H} {Q : Option Value → jm_H → Prop} {r0 : Nat} : jm_w S 4 88 76 [.ref r0, .null, .null, .null, .null, .null, .null, .null, .null, .null, .null, .null] [] H Q = Q none H := jsret_v at88_76 rfl
theorem at88_77 : jm_at 88 77 = some (.aload_n 0) := by decide +kernel
theorem at88_78 : jm_at 88 78 = some (.getfield 12) := by decide +kernel
theorem at88_81 : jm_at 88 81 = some (.invokevirtual 66) := by decide +kernel
theorem rv88i_66 : jm_rv 88 (.invokevirtual 66) = (2, 59, 0, 0) := by decide +kernel
theorem u88_77 {S : Option (Nat × (Nat → Int32))} {H : jm_H} {Q : Option Value → jm_H → Prop} {r0 : Nat} (h0 : jm_tg H r0 = 4) (h1 : ¬ jm_R H r0 0 = 0) (h2 : jm_tg H (jm_R H r0 0) = 3) : jm_w S 4 88 77 [.ref r0, .null, .null, .null, .null, .null, .null, .null, .null, .null, .null, .null] [] H Q = jm_c S 59 [.ref (jm_R H r0 0)] H (fun v G => jm_w S 4 88 84 [.ref r0, .null, .null, .null, .null, .null, .null, .null, .null, .null, .null, .null] (v.toList ++ []) G Q) := (js1 at88_77 rfl rfl rfl).trans ((jsgR (H := H) at88_78 rv88g_12 rfl h0 h1 rfl).trans (jscall (H := H) (as := [.ref (jm_R H r0 0)]) (q := []) at88_81 rfl rv88i_66 (jscutV rfl rfl rfl (Nat.le_of_ble_eq_true rfl) rfl h2) rfl (Nat.le_of_ble_eq_true rfl) rfl rfl))
theorem at88_84 : jm_at 88 84 = some (.aload_n 0) := by decide +kernel
theorem at88_85 : jm_at 88 85 = some (.getfield 18) := by decide +kernel
theorem at88_88 : jm_at 88 88 = some (.invokevirtual 66) := by decide +kernel
theorem u88_84 {S : Option (Nat × (Nat → Int32))} {H : jm_H} {Q : Option Value → jm_H → Prop} {r0 : Nat} {p0 : Int32} (h0 : jm_tg H r0 = 4) (h1 : ¬ jm_R H r0 1 = 0) (h2 : jm_tg H (jm_R H r0 1) = 3) : jm_w S 4 88 84 [.ref r0, .null, .null, .null, .null, .null, .null, .null, .null, .null, .null, .null] [.int p0] H Q = jm_c S 59 [.ref (jm_R H r0 1)] H (fun v G => jm_w S 4 88 91 [.ref r0, .null, .null, .null, .null, .null, .null, .null, .null, .null, .null, .null] (v.toList ++ [.int p0]) G Q) := (js1 at88_84 rfl rfl rfl).trans ((jsgR (H := H) at88_85 rv88g_18 rfl h0 h1 rfl).trans (jscall (H := H) (as := [.ref (jm_R H r0 1)]) (q := [.int p0]) at88_88 rfl rv88i_66 (jscutV rfl rfl rfl (Nat.le_of_ble_eq_true rfl) rfl h2) rfl (Nat.le_of_ble_eq_true rfl) rfl rfl))
theorem at88_91 : jm_at 88 91 = some (.if_icmp .lt 7) := by decide +kernel
theorem u88_91 {S : Option (Nat × (Nat → Int32))} {H : jm_H} {Q : Option Value → jm_H → Prop} {r0 : Nat} {p0 p1 : Int32} : jm_w S 4 88 91 [.ref r0, .null, .null, .null, .null, .null, .null, .null, .null, .null, .null, .null] [.int p1, .int p0] H Q = if p0 < p1 then jm_w S 4 88 98 [.ref r0, .null, .null, .null, .null, .null, .null, .null, .null, .null, .null, .null] [] H Q else jm_w S 4 88 94 [.ref r0, .null, .null, .null, .null, .null, .null, .null, .null, .null, .null, .null] [] H Q := jsif (P := p0 < p1) at88_91 rfl rfl
theorem at88_94 : jm_at 88 94 = some (.iconst 1) := by decide +kernel
theorem at88_95 : jm_at 88 95 = some (.goto 4) := by decide +kernel
theorem u88_94 {S : Option (Nat × (Nat → Int32))} {H : jm_H} {Q : Option Value → jm_H → Prop} {r0 : Nat} : jm_w S 4 88 94 [.ref r0, .null, .null, .null, .null, .null, .null, .null, .null, .null, .null, .null] [] H Q = jm_w S 4 88 99 [.ref r0, .null, .null, .null, .null, .null, .null, .null, .null, .null, .null, .null] [.int (1 : Int32)] H Q := (jsci at88_94 rfl rfl).trans (js2 at88_95 rfl rfl)
theorem at88_98 : jm_at 88 98 = some (.iconst 0) := by decide +kernel
theorem u88_98 {S : Option (Nat × (Nat → Int32))} {H : jm_H} {Q : Option Value → jm_H → Prop} {r0 : Nat} : jm_w S 4 88 98 [.ref r0, .null, .null, .null, .null, .null, .null, .null, .null, .null, .null, .null] [] H Q = jm_w S 4 88 99 [.ref r0, .null, .null, .null, .null, .null, .null, .null, .null, .null, .null, .null] [.int (0 : Int32)] H Q := jsci at88_98 rfl rfl
theorem at88_99 : jm_at 88 99 = some (.istore_n 1) := by decide +kernel
theorem at88_100 : jm_at 88 100 = some (.iload_n 1) := by decide +kernel
theorem at88_101 : jm_at 88 101 = some (.ifCond .eq 10) := by decide +kernel
theorem u88_99 {S : Option (Nat × (Nat → Int32))} {H : jm_H} {Q : Option Value → jm_H → Prop} {r0 : Nat} {p0 : Int32} : jm_w S 4 88 99 [.ref r0, .null, .null, .null, .null, .null, .null, .null, .null, .null, .null, .null] [.int p0] H Q = if p0 = 0 then jm_w S 4 88 111 [.ref r0, .int p0, .null, .null, .null, .null, .null, .null, .null, .null, .null, .null] [] H Q else jm_w S 4 88 104 [.ref r0, .int p0, .null, .null, .null, .null, .null, .null, .null, .null, .null, .null] [] H Q := (js1 at88_99 rfl rfl rfl).trans ((js1 at88_100 rfl rfl rfl).trans (jsif (P := p0 = 0) at88_101 rfl rfl))
theorem at88_104 : jm_at 88 104 = some (.aload_n 0) := by decide +kernel
theorem at88_105 : jm_at 88 105 = some (.getfield 12) := by decide +kernel
theorem at88_108 : jm_at 88 108 = some (.goto 7) := by decide +kernel
theorem u88_104 {S : Option (Nat × (Nat → Int32))} {H : jm_H} {Q : Option Value → jm_H → Prop} {r0 : Nat} {x1 : Int32} (h0 : jm_tg H r0 = 4) (h1 : ¬ jm_R H r0 0 = 0) : jm_w S 4 88 104 [.ref r0, .int x1, .null, .null, .null, .null, .null, .null, .null, .null, .null, .null] [] H Q = jm_w S 4 88 115 [.ref r0, .int x1, .null, .null, .null, .null, .null, .null, .null, .null, .null, .null] [.ref (jm_R H r0 0)] H Q := (js1 at88_104 rfl rfl rfl).trans ((jsgR (H := H) at88_105 rv88g_12 rfl h0 h1 rfl).trans (js2 at88_108 rfl rfl))
theorem at88_111 : jm_at 88 111 = some (.aload_n 0) := by decide +kernel
theorem at88_112 : jm_at 88 112 = some (.getfield 18) := by decide +kernel
theorem u88_111 {S : Option (Nat × (Nat → Int32))} {H : jm_H} {Q : Option Value → jm_H → Prop} {r0 : Nat} {x1 : Int32} (h0 : jm_tg H r0 = 4) (h1 : ¬ jm_R H r0 1 = 0) : jm_w S 4 88 111 [.ref r0, .int x1, .null, .null, .null, .null, .null, .null, .null, .null, .null, .null] [] H Q = jm_w S 4 88 115 [.ref r0, .int x1, .null, .null, .null, .null, .null, .null, .null, .null, .null, .null] [.ref (jm_R H r0 1)] H Q := (js1 at88_111 rfl rfl rfl).trans (jsgR (H := H) at88_112 rv88g_18 rfl h0 h1 rfl)
theorem at88_115 : jm_at 88 115 = some (.astore_n 2) := by decide +kernel
theorem at88_116 : jm_at 88 116 = some (.iload_n 1) := by decide +kernel
theorem at88_117 : jm_at 88 117 = some (.ifCond .eq 10) := by decide +kernel
theorem u88_115 {S : Option (Nat × (Nat → Int32))} {H : jm_H} {Q : Option Value → jm_H → Prop} {r0 o0 : Nat} {x1 : Int32} : jm_w S 4 88 115 [.ref r0, .int x1, .null, .null, .null, .null, .null, .null, .null, .null, .null, .null] [.ref o0] H Q = if x1 = 0 then jm_w S 4 88 127 [.ref r0, .int x1, .ref o0, .null, .null, .null, .null, .null, .null, .null, .null, .null] [] H Q else jm_w S 4 88 120 [.ref r0, .int x1, .ref o0, .null, .null, .null, .null, .null, .null, .null, .null, .null] [] H Q := (js1 at88_115 rfl rfl rfl).trans ((js1 at88_116 rfl rfl rfl).trans (jsif (P := x1 = 0) at88_117 rfl rfl))
theorem at88_120 : jm_at 88 120 = some (.aload_n 0) := by decide +kernel
theorem at88_121 : jm_at 88 121 = some (.getfield 18) := by decide +kernel
theorem at88_124 : jm_at 88 124 = some (.goto 7) := by decide +kernel
theorem u88_120 {S : Option (Nat × (Nat → Int32))} {H : jm_H} {Q : Option Value → jm_H → Prop} {r0 r2 : Nat} {x1 : Int32} (h0 : jm_tg H r0 = 4) (h1 : ¬ jm_R H r0 1 = 0) : jm_w S 4 88 120 [.ref r0, .int x1, .ref r2, .null, .null, .null, .null, .null, .null, .null, .null, .null] [] H Q = jm_w S 4 88 131 [.ref r0, .int x1, .ref r2, .null, .null, .null, .null, .null, .null, .null, .null, .null] [.ref (jm_R H r0 1)] H Q := (js1 at88_120 rfl rfl rfl).trans ((jsgR (H := H) at88_121 rv88g_18 rfl h0 h1 rfl).trans (js2 at88_124 rfl rfl))
theorem at88_127 : jm_at 88 127 = some (.aload_n 0) := by decide +kernel
theorem at88_128 : jm_at 88 128 = some (.getfield 12) := by decide +kernel
theorem u88_127 {S : Option (Nat × (Nat → Int32))} {H : jm_H} {Q : Option Value → jm_H → Prop} {r0 r2 : Nat} {x1 : Int32} (h0 : jm_tg H r0 = 4) (h1 : ¬ jm_R H r0 0 = 0) : jm_w S 4 88 127 [.ref r0, .int x1, .ref r2, .null, .null, .null, .null, .null, .null, .null, .null, .null] [] H Q = jm_w S 4 88 131 [.ref r0, .int x1, .ref r2, .null, .null, .null, .null, .null, .null, .null, .null, .null] [.ref (jm_R H r0 0)] H Q := (js1 at88_127 rfl rfl rfl).trans (jsgR (H := H) at88_128 rv88g_12 rfl h0 h1 rfl)
theorem at88_131 : jm_at 88 131 = some (.astore_n 3) := by decide +kernel
theorem at88_132 : jm_at 88 132 = some (.bipush 58) := by decide +kernel
theorem at88_134 : jm_at 88 134 = some (.aload_n 2) := by decide +kernel
theorem at88_135 : jm_at 88 135 = some (.getfield 70) := by decide +kernel
theorem rv88g_70 : jm_rv 88 (.getfield 70) = (0, 2, 3, 0) := by decide +kernel
theorem at88_138 : jm_at 88 138 = some (.invokestatic 74) := by decide +kernel
theorem rv88i_74 : jm_rv 88 (.invokestatic 74) = (1, 53, 0, 0) := by decide +kernel
theorem u88_131 {S : Option (Nat × (Nat → Int32))} {H : jm_H} {Q : Option Value → jm_H → Prop} {r0 r2 o0 : Nat} {x1 : Int32} (h0 : jm_tg H r2 = 3) : jm_w S 4 88 131 [.ref r0, .int x1, .ref r2, .null, .null, .null, .null, .null, .null, .null, .null, .null] [.ref o0] H Q = jm_c S 53 [.long (jm_L H r2 3)] H (fun v G => jm_w S 4 88 141 [.ref r0, .int x1, .ref r2, .ref o0, .null, .null, .null, .null, .null, .null, .null, .null] (v.toList ++ [.int (58 : Int32)]) G Q) := (js1 at88_131 rfl rfl rfl).trans ((jscb at88_132 rfl rfl).trans ((js1 at88_134 rfl rfl rfl).trans ((jsgL (H := H) at88_135 rv88g_70 rfl h0 rfl).trans (jscall (H := H) (as := [.long (jm_L H r2 3)]) (q := [.int (58 : Int32)]) at88_138 rfl rv88i_74 (jscut rfl rfl rfl (Nat.le_of_ble_eq_true rfl)) rfl (Nat.le_of_ble_eq_true rfl) rfl rfl))))
theorem at88_141 : jm_at 88 141 = some (.isub) := by decide +kernel
theorem at88_142 : jm_at 88 142 = some (.istore 4) := by decide +kernel
theorem at88_144 : jm_at 88 144 = some (.aload_n 2) := by decide +kernel
theorem at88_145 : jm_at 88 145 = some (.getfield 52) := by decide +kernel
theorem rv88g_52 : jm_rv 88 (.getfield 52) = (0, 2, 4, 0) := by decide +kernel
theorem at88_148 : jm_at 88 148 = some (.iload 4) := by decide +kernel
theorem at88_150 : jm_at 88 150 = some (.isub) := by decide +kernel
theorem at88_151 : jm_at 88 151 = some (.istore 5) := by decide +kernel
theorem at88_153 : jm_at 88 153 = some (.aload_n 2) := by decide +kernel
theorem at88_154 : jm_at 88 154 = some (.getfield 70) := by decide +kernel
theorem at88_157 : jm_at 88 157 = some (.iload 4) := by decide +kernel
theorem at88_159 : jm_at 88 159 = some (.invokestatic 78) := by decide +kernel
theorem rv88i_78 : jm_rv 88 (.invokestatic 78) = (1, 56, 0, 0) := by decide +kernel
theorem u88_141 {S : Option (Nat × (Nat → Int32))} {H : jm_H} {Q : Option Value → jm_H → Prop} {r0 r2 r3 : Nat} {x1 p0 p1 : Int32} (h0 : jm_tg H r2 = 3) : jm_w S 4 88 141 [.ref r0, .int x1, .ref r2, .ref r3, .null, .null, .null, .null, .null, .null, .null, .null] [.int p1, .int p0] H Q = jm_c S 56 [.long (jm_L H r2 3), .int (p0 - p1)] H (fun v G => jm_w S 4 88 162 [.ref r0, .int x1, .ref r2, .ref r3, .int (p0 - p1), .int ((jm_I H r2 4) - (p0 - p1)), .null, .null, .null, .null, .null, .null] (v.toList ++ []) G Q) := (js0 at88_141 rfl rfl rfl).trans ((js1 at88_142 rfl rfl rfl).trans ((js1 at88_144 rfl rfl rfl).trans ((jsgI (H := H) at88_145 rv88g_52 (Or.inl rfl) h0 rfl).trans ((js1 at88_148 rfl rfl rfl).trans ((js0 at88_150 rfl rfl rfl).trans ((js1 at88_151 rfl rfl rfl).trans ((js1 at88_153 rfl rfl rfl).trans ((jsgL (H := H) at88_154 rv88g_70 rfl h0 rfl).trans ((js1 at88_157 rfl rfl rfl).trans (jscall (H := H) (as := [.long (jm_L H r2 3), .int (p0 - p1)]) (q := []) at88_159 rfl rv88i_78 (jscut rfl rfl rfl (Nat.le_of_ble_eq_true rfl)) rfl (Nat.le_of_ble_eq_true rfl) rfl rfl))))))))))
theorem at88_162 : jm_at 88 162 = some (.lstore 6) := by decide +kernel
theorem at88_164 : jm_at 88 164 = some (.aload_n 3) := by decide +kernel
theorem at88_165 : jm_at 88 165 = some (.getfield 70) := by decide +kernel
theorem at88_168 : jm_at 88 168 = some (.aload_n 3) := by decide +kernel
theorem at88_169 : jm_at 88 169 = some (.getfield 52) := by decide +kernel
theorem at88_172 : jm_at 88 172 = some (.iload 5) := by decide +kernel
theorem at88_174 : jm_at 88 174 = some (.isub) := by decide +kernel
theorem at88_175 : jm_at 88 175 = some (.invokestatic 78) := by decide +kernel
theorem u88_162 {S : Option (Nat × (Nat → Int32))} {H : jm_H} {Q : Option Value → jm_H → Prop} {r0 r2 r3 : Nat} {x1 x4 x5 : Int32} {q0 : Int64} (h0 : jm_tg H r3 = 3) : jm_w S 4 88 162 [.ref r0, .int x1, .ref r2, .ref r3, .int x4, .int x5, .null, .null, .null, .null, .null, .null] [.long q0] H Q = jm_c S 56 [.long (jm_L H r3 3), .int ((jm_I H r3 4) - x5)] H (fun v G => jm_w S 4 88 178 [.ref r0, .int x1, .ref r2, .ref r3, .int x4, .int x5, .long q0, .null, .null, .null, .null, .null] (v.toList ++ []) G Q) := (js1 at88_162 rfl rfl rfl).trans ((js1 at88_164 rfl rfl rfl).trans ((jsgL (H := H) at88_165 rv88g_70 rfl h0 rfl).trans ((js1 at88_168 rfl rfl rfl).trans ((jsgI (H := H) at88_169 rv88g_52 (Or.inl rfl) h0 rfl).trans ((js1 at88_172 rfl rfl rfl).trans ((js0 at88_174 rfl rfl rfl).trans (jscall (H := H) (as := [.long (jm_L H r3 3), .int ((jm_I H r3 4) - x5)]) (q := []) at88_175 rfl rv88i_78 (jscut rfl rfl rfl (Nat.le_of_ble_eq_true rfl)) rfl (Nat.le_of_ble_eq_true rfl) rfl rfl)))))))
theorem at88_178 : jm_at 88 178 = some (.lstore 8) := by decide +kernel
theorem at88_180 : jm_at 88 180 = some (.aload_n 2) := by decide +kernel
theorem at88_181 : jm_at 88 181 = some (.getfield 31) := by decide +kernel
theorem at88_184 : jm_at 88 184 = some (.aload_n 3) := by decide +kernel
theorem at88_185 : jm_at 88 185 = some (.getfield 31) := by decide +kernel
theorem at88_188 : jm_at 88 188 = some (.if_icmp .ne 11) := by decide +kernel
theorem u88_178 {S : Option (Nat × (Nat → Int32))} {H : jm_H} {Q : Option Value → jm_H → Prop} {r0 r2 r3 : Nat} {x1 x4 x5 : Int32} {y6 q0 : Int64} (h0 : jm_tg H r2 = 3) (h1 : jm_tg H r3 = 3) : jm_w S 4 88 178 [.ref r0, .int x1, .ref r2, .ref r3, .int x4, .int x5, .long y6, .null, .null, .null, .null, .null] [.long q0] H Q = if ¬ (jm_I H r2 2) = (jm_I H r3 2) then jm_w S 4 88 199 [.ref r0, .int x1, .ref r2, .ref r3, .int x4, .int x5, .long y6, .null, .long q0, .null, .null, .null] [] H Q else jm_w S 4 88 191 [.ref r0, .int x1, .ref r2, .ref r3, .int x4, .int x5, .long y6, .null, .long q0, .null, .null, .null] [] H Q := (js1 at88_178 rfl rfl rfl).trans ((js1 at88_180 rfl rfl rfl).trans ((jsgI (H := H) at88_181 rv88g_31 (Or.inl rfl) h0 rfl).trans ((js1 at88_184 rfl rfl rfl).trans ((jsgI (H := H) at88_185 rv88g_31 (Or.inl rfl) h1 rfl).trans (jsif (P := ¬ (jm_I H r2 2) = (jm_I H r3 2)) at88_188 rfl rfl)))))
theorem at88_191 : jm_at 88 191 = some (.lload 6) := by decide +kernel
theorem at88_193 : jm_at 88 193 = some (.lload 8) := by decide +kernel
theorem at88_195 : jm_at 88 195 = some (.ladd) := by decide +kernel
theorem at88_196 : jm_at 88 196 = some (.goto 8) := by decide +kernel
theorem u88_191 {S : Option (Nat × (Nat → Int32))} {H : jm_H} {Q : Option Value → jm_H → Prop} {r0 r2 r3 : Nat} {x1 x4 x5 : Int32} {y6 y8 : Int64} : jm_w S 4 88 191 [.ref r0, .int x1, .ref r2, .ref r3, .int x4, .int x5, .long y6, .null, .long y8, .null, .null, .null] [] H Q = jm_w S 4 88 204 [.ref r0, .int x1, .ref r2, .ref r3, .int x4, .int x5, .long y6, .null, .long y8, .null, .null, .null] [.long (y6 + y8)] H Q := (js1 at88_191 rfl rfl rfl).trans ((js1 at88_193 rfl rfl rfl).trans ((js0 at88_195 rfl rfl rfl).trans (js2 at88_196 rfl rfl)))
theorem at88_199 : jm_at 88 199 = some (.lload 6) := by decide +kernel
theorem at88_201 : jm_at 88 201 = some (.lload 8) := by decide +kernel
theorem at88_203 : jm_at 88 203 = some (.lsub) := by decide +kernel
theorem u88_199 {S : Option (Nat × (Nat → Int32))} {H : jm_H} {Q : Option Value → jm_H → Prop} {r0 r2 r3 : Nat} {x1 x4 x5 : Int32} {y6 y8 : Int64} : jm_w S 4 88 199 [.ref r0, .int x1, .ref r2, .ref r3, .int x4, .int x5, .long y6, .null, .long y8, .null, .null, .null] [] H Q = jm_w S 4 88 204 [.ref r0, .int x1, .ref r2, .ref r3, .int x4, .int x5, .long y6, .null, .long y8, .null, .null, .null] [.long (y6 - y8)] H Q := (js1 at88_199 rfl rfl rfl).trans ((js1 at88_201 rfl rfl rfl).trans (js0 at88_203 rfl rfl rfl))
theorem at88_204 : jm_at 88 204 = some (.lstore 10) := by decide +kernel
theorem at88_206 : jm_at 88 206 = some (.aload_n 0) := by decide +kernel
theorem at88_207 : jm_at 88 207 = some (.getfield 21) := by decide +kernel
theorem at88_210 : jm_at 88 210 = some (.lload 10) := by decide +kernel
theorem at88_212 : jm_at 88 212 = some (.lconst 0) := by decide +kernel
theorem at88_213 : jm_at 88 213 = some (.lcmp) := by decide +kernel
theorem at88_214 : jm_at 88 214 = some (.ifCond .ge 11) := by decide +kernel
theorem u88_204 {S : Option (Nat × (Nat → Int32))} {H : jm_H} {Q : Option Value → jm_H → Prop} {r0 r2 r3 : Nat} {x1 x4 x5 : Int32} {y6 y8 q0 : Int64} (h0 : jm_tg H r0 = 4) (h1 : ¬ jm_R H r0 2 = 0) : jm_w S 4 88 204 [.ref r0, .int x1, .ref r2, .ref r3, .int x4, .int x5, .long y6, .null, .long y8, .null, .null, .null] [.long q0] H Q = if 0 ≤ (lg_cmp q0 (0 : Int64)) then jm_w S 4 88 225 [.ref r0, .int x1, .ref r2, .ref r3, .int x4, .int x5, .long y6, .null, .long y8, .null, .long q0, .null] [.ref (jm_R H r0 2)] H Q else jm_w S 4 88 217 [.ref r0, .int x1, .ref r2, .ref r3, .int x4, .int x5, .long y6, .null, .long y8, .null, .long q0, .null] [.ref (jm_R H r0 2)] H Q := (js1 at88_204 rfl rfl rfl).trans ((js1 at88_206 rfl rfl rfl).trans ((jsgR (H := H) at88_207 rv88g_21 rfl h0 h1 rfl).trans ((js1 at88_210 rfl rfl rfl).trans ((jscl at88_212 rfl rfl).trans ((js0 at88_213 rfl rfl rfl).trans (jsif (P := 0 ≤ (lg_cmp q0 (0 : Int64))) at88_214 rfl rfl))))))
theorem at88_217 : jm_at 88 217 = some (.aload_n 2) := by decide +kernel
theorem at88_218 : jm_at 88 218 = some (.getfield 31) := by decide +kernel
theorem at88_221 : jm_at 88 221 = some (.ineg) := by decide +kernel
theorem at88_222 : jm_at 88 222 = some (.goto 7) := by decide +kernel
theorem u88_217 {S : Option (Nat × (Nat → Int32))} {H : jm_H} {Q : Option Value → jm_H → Prop} {r0 r2 r3 o0 : Nat} {x1 x4 x5 : Int32} {y6 y8 y10 : Int64} (h0 : jm_tg H r2 = 3) : jm_w S 4 88 217 [.ref r0, .int x1, .ref r2, .ref r3, .int x4, .int x5, .long y6, .null, .long y8, .null, .long y10, .null] [.ref o0] H Q = jm_w S 4 88 229 [.ref r0, .int x1, .ref r2, .ref r3, .int x4, .int x5, .long y6, .null, .long y8, .null, .long y10, .null] [.int (-(jm_I H r2 2)), .ref o0] H Q := (js1 at88_217 rfl rfl rfl).trans ((jsgI (H := H) at88_218 rv88g_31 (Or.inl rfl) h0 rfl).trans ((js0 at88_221 rfl rfl rfl).trans (js2 at88_222 rfl rfl)))
theorem at88_225 : jm_at 88 225 = some (.aload_n 2) := by decide +kernel
theorem at88_226 : jm_at 88 226 = some (.getfield 31) := by decide +kernel
theorem u88_225 {S : Option (Nat × (Nat → Int32))} {H : jm_H} {Q : Option Value → jm_H → Prop} {r0 r2 r3 o0 : Nat} {x1 x4 x5 : Int32} {y6 y8 y10 : Int64} (h0 : jm_tg H r2 = 3) : jm_w S 4 88 225 [.ref r0, .int x1, .ref r2, .ref r3, .int x4, .int x5, .long y6, .null, .long y8, .null, .long y10, .null] [.ref o0] H Q = jm_w S 4 88 229 [.ref r0, .int x1, .ref r2, .ref r3, .int x4, .int x5, .long y6, .null, .long y8, .null, .long y10, .null] [.int (jm_I H r2 2), .ref o0] H Q := (js1 at88_225 rfl rfl rfl).trans (jsgI (H := H) at88_226 rv88g_31 (Or.inl rfl) h0 rfl)
theorem at88_229 : jm_at 88 229 = some (.lload 10) := by decide +kernel
theorem at88_231 : jm_at 88 231 = some (.invokestatic 82) := by decide +kernel
theorem rv88i_82 : jm_rv 88 (.invokestatic 82) = (1, 47, 0, 0) := by decide +kernel
theorem u88_229 {S : Option (Nat × (Nat → Int32))} {H : jm_H} {Q : Option Value → jm_H → Prop} {r0 r2 r3 o0 : Nat} {x1 x4 x5 p1 : Int32} {y6 y8 y10 : Int64} : jm_w S 4 88 229 [.ref r0, .int x1, .ref r2, .ref r3, .int x4, .int x5, .long y6, .null, .long y8, .null, .long y10, .null] [.int p1, .ref o0] H Q = jm_c S 47 [.long y10] H (fun v G => jm_w S 4 88 234 [.ref r0, .int x1, .ref r2, .ref r3, .int x4, .int x5, .long y6, .null, .long y8, .null, .long y10, .null] (v.toList ++ [.int p1, .ref o0]) G Q) := (js1 at88_229 rfl rfl rfl).trans (jscall (H := H) (as := [.long y10]) (q := [.int p1, .ref o0]) at88_231 rfl rv88i_82 (jscut rfl rfl rfl (Nat.le_of_ble_eq_true rfl)) rfl (Nat.le_of_ble_eq_true rfl) rfl rfl)
theorem at88_234 : jm_at 88 234 = some (.iload 5) := by decide +kernel
theorem at88_236 : jm_at 88 236 = some (.invokevirtual 88) := by decide +kernel
theorem rv88i_88 : jm_rv 88 (.invokevirtual 88) = (2, 48, 0, 0) := by decide +kernel
theorem u88_234 {S : Option (Nat × (Nat → Int32))} {H : jm_H} {Q : Option Value → jm_H → Prop} {r0 r2 r3 o0 : Nat} {x1 x4 x5 p1 : Int32} {y6 y8 y10 q2 : Int64} (h0 : jm_tg H o0 = 3) : jm_w S 4 88 234 [.ref r0, .int x1, .ref r2, .ref r3, .int x4, .int x5, .long y6, .null, .long y8, .null, .long y10, .null] [.long q2, .int p1, .ref o0] H Q = jm_c S 48 [.ref o0, .int p1, .long q2, .int x5] H (fun v G => jm_w S 4 88 239 [.ref r0, .int x1, .ref r2, .ref r3, .int x4, .int x5, .long y6, .null, .long y8, .null, .long y10, .null] (v.toList ++ []) G Q) := (js1 at88_234 rfl rfl rfl).trans (jscall (H := H) (as := [.ref o0, .int p1, .long q2, .int x5]) (q := []) at88_236 rfl rv88i_88 (jscutV rfl rfl rfl (Nat.le_of_ble_eq_true rfl) rfl h0) rfl (Nat.le_of_ble_eq_true rfl) rfl rfl)
theorem at88_239 : jm_at 88 239 = some (.return_) := by decide +kernel
theorem u88_239 {S : Option (Nat × (Nat → Int32))} {H : jm_H} {Q : Option Value → jm_H → Prop} {r0 r2 r3 : Nat} {x1 x4 x5 : Int32} {y6 y8 y10 : Int64} : jm_w S 4 88 239 [.ref r0, .int x1, .ref r2, .ref r3, .int x4, .int x5, .long y6, .null, .long y8, .null, .long y10, .null] [] H Q = Q none H := jsret_v at88_239 rfl
theorem en88 {S : Option (Nat × (Nat → Int32))} {H : jm_H} {Q : Option Value → jm_H → Prop} {r0 : Nat} : jm_c S 88 [.ref r0] H Q = jm_w S 4 88 0 [.ref r0, .null, .null, .null, .null, .null, .null, .null, .null, .null, .null, .null] [] H Q := rfl
theorem at89_0 : jm_at 89 0 = some (.aload_n 0) := by decide +kernel
theorem at89_1 : jm_at 89 1 = some (.getfield 12) := by decide +kernel
theorem rv89g_12 : jm_rv 89 (.getfield 12) = (0, 3, 0, 0) := by decide +kernel
theorem at89_4 : jm_at 89 4 = some (.getfield 59) := by decide +kernel
theorem rv89g_59 : jm_rv 89 (.getfield 59) = (0, 2, 1, 0) := by decide +kernel
theorem at89_7 : jm_at 89 7 = some (.ifCond .ne 13) := by decide +kernel
theorem u89_0 {S : Option (Nat × (Nat → Int32))} {H : jm_H} {Q : Option Value → jm_H → Prop} {r0 : Nat} (h0 : jm_tg H r0 = 4) (h1 : ¬ jm_R H r0 0 = 0) (h2 : jm_tg H (jm_R H r0 0) = 3) : jm_w S 3 89 0 [.ref r0] [] H Q = if ¬ (jm_I H (jm_R H r0 0) 1) = 0 then jm_w S 3 89 20 [.ref r0] [] H Q else jm_w S 3 89 10 [.ref r0] [] H Q := (js1 at89_0 rfl rfl rfl).trans ((jsgR (H := H) at89_1 rv89g_12 rfl h0 h1 rfl).trans ((jsgI (H := H) at89_4 rv89g_59 (Or.inr rfl) h2 rfl).trans (jsif (P := ¬ (jm_I H (jm_R H r0 0) 1) = 0) at89_7 rfl rfl)))
theorem at89_10 : jm_at 89 10 = some (.aload_n 0) := by decide +kernel
theorem at89_11 : jm_at 89 11 = some (.getfield 18) := by decide +kernel
theorem rv89g_18 : jm_rv 89 (.getfield 18) = (0, 3, 1, 0) := by decide +kernel
theorem at89_14 : jm_at 89 14 = some (.getfield 59) := by decide +kernel
theorem at89_17 : jm_at 89 17 = some (.ifCond .eq 11) := by decide +kernel
theorem u89_10 {S : Option (Nat × (Nat → Int32))} {H : jm_H} {Q : Option Value → jm_H → Prop} {r0 : Nat} (h0 : jm_tg H r0 = 4) (h1 : ¬ jm_R H r0 1 = 0) (h2 : jm_tg H (jm_R H r0 1) = 3) : jm_w S 3 89 10 [.ref r0] [] H Q = if (jm_I H (jm_R H r0 1) 1) = 0 then jm_w S 3 89 28 [.ref r0] [] H Q else jm_w S 3 89 20 [.ref r0] [] H Q := (js1 at89_10 rfl rfl rfl).trans ((jsgR (H := H) at89_11 rv89g_18 rfl h0 h1 rfl).trans ((jsgI (H := H) at89_14 rv89g_59 (Or.inr rfl) h2 rfl).trans (jsif (P := (jm_I H (jm_R H r0 1) 1) = 0) at89_17 rfl rfl)))
theorem at89_20 : jm_at 89 20 = some (.aload_n 0) := by decide +kernel
theorem at89_21 : jm_at 89 21 = some (.getfield 21) := by decide +kernel
theorem rv89g_21 : jm_rv 89 (.getfield 21) = (0, 3, 2, 0) := by decide +kernel
theorem at89_24 : jm_at 89 24 = some (.invokevirtual 63) := by decide +kernel
theorem rv89i_63 : jm_rv 89 (.invokevirtual 63) = (2, 70, 0, 0) := by decide +kernel
theorem u89_20 {S : Option (Nat × (Nat → Int32))} {H : jm_H} {Q : Option Value → jm_H → Prop} {r0 : Nat} (h0 : jm_tg H r0 = 4) (h1 : ¬ jm_R H r0 2 = 0) (h2 : jm_tg H (jm_R H r0 2) = 3) : jm_w S 3 89 20 [.ref r0] [] H Q = jm_c S 70 [.ref (jm_R H r0 2)] H (fun v G => jm_w S 3 89 27 [.ref r0] (v.toList ++ []) G Q) := (js1 at89_20 rfl rfl rfl).trans ((jsgR (H := H) at89_21 rv89g_21 rfl h0 h1 rfl).trans (jscall (H := H) (as := [.ref (jm_R H r0 2)]) (q := []) at89_24 rfl rv89i_63 (jscutV rfl rfl rfl (Nat.le_of_ble_eq_true rfl) rfl h2) rfl (Nat.le_of_ble_eq_true rfl) rfl rfl))
theorem at89_27 : jm_at 89 27 = some (.return_) := by decide +kernel
theorem u89_27 {S : Option (Nat × (Nat → Int32))} {H : jm_H} {Q : Option Value → jm_H → Prop} {r0 : Nat} : jm_w S 3 89 27 [.ref r0] [] H Q = Q none H := jsret_v at89_27 rfl
theorem at89_28 : jm_at 89 28 = some (.aload_n 0) := by decide +kernel
theorem at89_29 : jm_at 89 29 = some (.getfield 21) := by decide +kernel
theorem at89_32 : jm_at 89 32 = some (.aload_n 0) := by decide +kernel
theorem at89_33 : jm_at 89 33 = some (.getfield 12) := by decide +kernel
theorem at89_36 : jm_at 89 36 = some (.getfield 31) := by decide +kernel
theorem rv89g_31 : jm_rv 89 (.getfield 31) = (0, 2, 2, 0) := by decide +kernel
theorem at89_39 : jm_at 89 39 = some (.aload_n 0) := by decide +kernel
theorem at89_40 : jm_at 89 40 = some (.getfield 18) := by decide +kernel
theorem at89_43 : jm_at 89 43 = some (.getfield 31) := by decide +kernel
theorem at89_46 : jm_at 89 46 = some (.imul) := by decide +kernel
theorem at89_47 : jm_at 89 47 = some (.aload_n 0) := by decide +kernel
theorem at89_48 : jm_at 89 48 = some (.getfield 12) := by decide +kernel
theorem at89_51 : jm_at 89 51 = some (.getfield 70) := by decide +kernel
theorem rv89g_70 : jm_rv 89 (.getfield 70) = (0, 2, 3, 0) := by decide +kernel
theorem at89_54 : jm_at 89 54 = some (.aload_n 0) := by decide +kernel
theorem at89_55 : jm_at 89 55 = some (.getfield 18) := by decide +kernel
theorem at89_58 : jm_at 89 58 = some (.getfield 70) := by decide +kernel
theorem at89_61 : jm_at 89 61 = some (.lmul) := by decide +kernel
theorem at89_62 : jm_at 89 62 = some (.aload_n 0) := by decide +kernel
theorem at89_63 : jm_at 89 63 = some (.getfield 12) := by decide +kernel
theorem at89_66 : jm_at 89 66 = some (.getfield 52) := by decide +kernel
theorem rv89g_52 : jm_rv 89 (.getfield 52) = (0, 2, 4, 0) := by decide +kernel
theorem at89_69 : jm_at 89 69 = some (.aload_n 0) := by decide +kernel
theorem at89_70 : jm_at 89 70 = some (.getfield 18) := by decide +kernel
theorem at89_73 : jm_at 89 73 = some (.getfield 52) := by decide +kernel
theorem at89_76 : jm_at 89 76 = some (.iadd) := by decide +kernel
theorem at89_77 : jm_at 89 77 = some (.invokevirtual 88) := by decide +kernel
theorem rv89i_88 : jm_rv 89 (.invokevirtual 88) = (2, 48, 0, 0) := by decide +kernel
theorem u89_28 {S : Option (Nat × (Nat → Int32))} {H : jm_H} {Q : Option Value → jm_H → Prop} {r0 : Nat} (h0 : jm_tg H r0 = 4) (h1 : ¬ jm_R H r0 2 = 0) (h2 : ¬ jm_R H r0 0 = 0) (h3 : jm_tg H (jm_R H r0 0) = 3) (h4 : ¬ jm_R H r0 1 = 0) (h5 : jm_tg H (jm_R H r0 1) = 3) (h6 : jm_tg H (jm_R H r0 2) = 3) : jm_w S 3 89 28 [.ref r0] [] H Q = jm_c S 48 [.ref (jm_R H r0 2), .int ((jm_I H (jm_R H r0 0) 2) * (jm_I H (jm_R H r0 1) 2)), .long ((jm_L H (jm_R H r0 0) 3) * (jm_L H (jm_R H r0 1) 3)), .int ((jm_I H (jm_R H r0 0) 4) + (jm_I H (jm_R H r0 1) 4))] H (fun v G => jm_w S 3 89 80 [.ref r0] (v.toList ++ []) G Q) := (js1 at89_28 rfl rfl rfl).trans ((jsgR (H := H) at89_29 rv89g_21 rfl h0 h1 rfl).trans ((js1 at89_32 rfl rfl rfl).trans ((jsgR (H := H) at89_33 rv89g_12 rfl h0 h2 rfl).trans ((jsgI (H := H) at89_36 rv89g_31 (Or.inl rfl) h3 rfl).trans ((js1 at89_39 rfl rfl rfl).trans ((jsgR (H := H) at89_40 rv89g_18 rfl h0 h4 rfl).trans ((jsgI (H := H) at89_43 rv89g_31 (Or.inl rfl) h5 rfl).trans ((js0 at89_46 rfl rfl rfl).trans ((js1 at89_47 rfl rfl rfl).trans ((jsgR (H := H) at89_48 rv89g_12 rfl h0 h2 rfl).trans ((jsgL (H := H) at89_51 rv89g_70 rfl h3 rfl).trans ((js1 at89_54 rfl rfl rfl).trans ((jsgR (H := H) at89_55 rv89g_18 rfl h0 h4 rfl).trans ((jsgL (H := H) at89_58 rv89g_70 rfl h5 rfl).trans ((js0 at89_61 rfl rfl rfl).trans ((js1 at89_62 rfl rfl rfl).trans ((jsgR (H := H) at89_63 rv89g_12 rfl h0 h2 rfl).trans ((jsgI (H := H) at89_66 rv89g_52 (Or.inl rfl) h3 rfl).trans ((js1 at89_69 rfl rfl rfl).trans ((jsgR (H := H) at89_70 rv89g_18 rfl h0 h4 rfl).trans ((jsgI (H := H) at89_73 rv89g_52 (Or.inl rfl) h5 rfl).trans ((js0 at89_76 rfl rfl rfl).trans (jscall (H := H) (as := [.ref (jm_R H r0 2), .int ((jm_I H (jm_R H r0 0) 2) * (jm_I H (jm_R H r0 1) 2)), .long ((jm_L H (jm_R H r0 0) 3) * (jm_L H (jm_R H r0 1) 3)), .int ((jm_I H (jm_R H r0 0) 4) + (jm_I H (jm_R H r0 1) 4))]) (q := []) at89_77 rfl rv89i_88 (jscutV rfl rfl rfl (Nat.le_of_ble_eq_true rfl) rfl h6) rfl (Nat.le_of_ble_eq_true rfl) rfl rfl)))))))))))))))))))))))
theorem at89_80 : jm_at 89 80 = some (.return_) := by decide +kernel
theorem u89_80 {S : Option (Nat × (Nat → Int32))} {H : jm_H} {Q : Option Value → jm_H → Prop} {r0 : Nat} : jm_w S 3 89 80 [.ref r0] [] H Q = Q none H := jsret_v at89_80 rfl
theorem en89 {S : Option (Nat × (Nat → Int32))} {H : jm_H} {Q : Option Value → jm_H → Prop} {r0 : Nat} : jm_c S 89 [.ref r0] H Q = jm_w S 3 89 0 [.ref r0] [] H Q := rfl
theorem at90_0 : jm_at 90 0 = some (.aload_n 0) := by decide +kernel
theorem at90_1 : jm_at 90 1 = some (.getfield 12) := by decide +kernel
theorem rv90g_12 : jm_rv 90 (.getfield 12) = (0, 3, 0, 0) := by decide +kernel
theorem at90_4 : jm_at 90 4 = some (.getfield 59) := by decide +kernel
theorem rv90g_59 : jm_rv 90 (.getfield 59) = (0, 2, 1, 0) := by decide +kernel
theorem at90_7 : jm_at 90 7 = some (.ifCond .ne 25) := by decide +kernel
theorem u90_0 {S : Option (Nat × (Nat → Int32))} {H : jm_H} {Q : Option Value → jm_H → Prop} {r0 : Nat} (h0 : jm_tg H r0 = 4) (h1 : ¬ jm_R H r0 0 = 0) (h2 : jm_tg H (jm_R H r0 0) = 3) : jm_w S 3 90 0 [.ref r0, .null, .null, .null, .null, .null, .null] [] H Q = if ¬ (jm_I H (jm_R H r0 0) 1) = 0 then jm_w S 3 90 32 [.ref r0, .null, .null, .null, .null, .null, .null] [] H Q else jm_w S 3 90 10 [.ref r0, .null, .null, .null, .null, .null, .null] [] H Q := (js1 at90_0 rfl rfl rfl).trans ((jsgR (H := H) at90_1 rv90g_12 rfl h0 h1 rfl).trans ((jsgI (H := H) at90_4 rv90g_59 (Or.inr rfl) h2 rfl).trans (jsif (P := ¬ (jm_I H (jm_R H r0 0) 1) = 0) at90_7 rfl rfl)))
theorem at90_10 : jm_at 90 10 = some (.aload_n 0) := by decide +kernel
theorem at90_11 : jm_at 90 11 = some (.getfield 18) := by decide +kernel
theorem rv90g_18 : jm_rv 90 (.getfield 18) = (0, 3, 1, 0) := by decide +kernel
theorem at90_14 : jm_at 90 14 = some (.getfield 59) := by decide +kernel
theorem at90_17 : jm_at 90 17 = some (.ifCond .ne 15) := by decide +kernel
theorem u90_10 {S : Option (Nat × (Nat → Int32))} {H : jm_H} {Q : Option Value → jm_H → Prop} {r0 : Nat} (h0 : jm_tg H r0 = 4) (h1 : ¬ jm_R H r0 1 = 0) (h2 : jm_tg H (jm_R H r0 1) = 3) : jm_w S 3 90 10 [.ref r0, .null, .null, .null, .null, .null, .null] [] H Q = if ¬ (jm_I H (jm_R H r0 1) 1) = 0 then jm_w S 3 90 32 [.ref r0, .null, .null, .null, .null, .null, .null] [] H Q else jm_w S 3 90 20 [.ref r0, .null, .null, .null, .null, .null, .null] [] H Q := (js1 at90_10 rfl rfl rfl).trans ((jsgR (H := H) at90_11 rv90g_18 rfl h0 h1 rfl).trans ((jsgI (H := H) at90_14 rv90g_59 (Or.inr rfl) h2 rfl).trans (jsif (P := ¬ (jm_I H (jm_R H r0 1) 1) = 0) at90_17 rfl rfl)))
theorem at90_20 : jm_at 90 20 = some (.aload_n 0) := by decide +kernel
theorem at90_21 : jm_at 90 21 = some (.getfield 18) := by decide +kernel
theorem at90_24 : jm_at 90 24 = some (.getfield 70) := by decide +kernel
theorem rv90g_70 : jm_rv 90 (.getfield 70) = (0, 2, 3, 0) := by decide +kernel
theorem at90_27 : jm_at 90 27 = some (.lconst 0) := by decide +kernel
theorem at90_28 : jm_at 90 28 = some (.lcmp) := by decide +kernel
theorem at90_29 : jm_at 90 29 = some (.ifCond .ne 11) := by decide +kernel
theorem u90_20 {S : Option (Nat × (Nat → Int32))} {H : jm_H} {Q : Option Value → jm_H → Prop} {r0 : Nat} (h0 : jm_tg H r0 = 4) (h1 : ¬ jm_R H r0 1 = 0) (h2 : jm_tg H (jm_R H r0 1) = 3) : jm_w S 3 90 20 [.ref r0, .null, .null, .null, .null, .null, .null] [] H Q = if ¬ (lg_cmp (jm_L H (jm_R H r0 1) 3) (0 : Int64)) = 0 then jm_w S 3 90 40 [.ref r0, .null, .null, .null, .null, .null, .null] [] H Q else jm_w S 3 90 32 [.ref r0, .null, .null, .null, .null, .null, .null] [] H Q := (js1 at90_20 rfl rfl rfl).trans ((jsgR (H := H) at90_21 rv90g_18 rfl h0 h1 rfl).trans ((jsgL (H := H) at90_24 rv90g_70 rfl h2 rfl).trans ((jscl at90_27 rfl rfl).trans ((js0 at90_28 rfl rfl rfl).trans (jsif (P := ¬ (lg_cmp (jm_L H (jm_R H r0 1) 3) (0 : Int64)) = 0) at90_29 rfl rfl)))))
theorem at90_32 : jm_at 90 32 = some (.aload_n 0) := by decide +kernel
theorem at90_33 : jm_at 90 33 = some (.getfield 21) := by decide +kernel
theorem rv90g_21 : jm_rv 90 (.getfield 21) = (0, 3, 2, 0) := by decide +kernel
theorem at90_36 : jm_at 90 36 = some (.invokevirtual 63) := by decide +kernel
theorem rv90i_63 : jm_rv 90 (.invokevirtual 63) = (2, 70, 0, 0) := by decide +kernel
theorem u90_32 {S : Option (Nat × (Nat → Int32))} {H : jm_H} {Q : Option Value → jm_H → Prop} {r0 : Nat} (h0 : jm_tg H r0 = 4) (h1 : ¬ jm_R H r0 2 = 0) (h2 : jm_tg H (jm_R H r0 2) = 3) : jm_w S 3 90 32 [.ref r0, .null, .null, .null, .null, .null, .null] [] H Q = jm_c S 70 [.ref (jm_R H r0 2)] H (fun v G => jm_w S 3 90 39 [.ref r0, .null, .null, .null, .null, .null, .null] (v.toList ++ []) G Q) := (js1 at90_32 rfl rfl rfl).trans ((jsgR (H := H) at90_33 rv90g_21 rfl h0 h1 rfl).trans (jscall (H := H) (as := [.ref (jm_R H r0 2)]) (q := []) at90_36 rfl rv90i_63 (jscutV rfl rfl rfl (Nat.le_of_ble_eq_true rfl) rfl h2) rfl (Nat.le_of_ble_eq_true rfl) rfl rfl))
theorem at90_39 : jm_at 90 39 = some (.return_) := by decide +kernel
theorem u90_39 {S : Option (Nat × (Nat → Int32))} {H : jm_H} {Q : Option Value → jm_H → Prop} {r0 : Nat} : jm_w S 3 90 39 [.ref r0, .null, .null, .null, .null, .null, .null] [] H Q = Q none H := jsret_v at90_39 rfl
theorem at90_40 : jm_at 90 40 = some (.aload_n 0) := by decide +kernel
theorem at90_41 : jm_at 90 41 = some (.getfield 12) := by decide +kernel
theorem at90_44 : jm_at 90 44 = some (.getfield 70) := by decide +kernel
theorem at90_47 : jm_at 90 47 = some (.bipush 40) := by decide +kernel
theorem at90_49 : jm_at 90 49 = some (.lshl) := by decide +kernel
theorem at90_50 : jm_at 90 50 = some (.lstore_n 1) := by decide +kernel
theorem at90_51 : jm_at 90 51 = some (.lload_n 1) := by decide +kernel
theorem at90_52 : jm_at 90 52 = some (.aload_n 0) := by decide +kernel
theorem at90_53 : jm_at 90 53 = some (.getfield 18) := by decide +kernel
theorem at90_56 : jm_at 90 56 = some (.getfield 70) := by decide +kernel
theorem at90_59 : jm_at 90 59 = some (.ldiv) := by decide +kernel
theorem at90_60 : jm_at 90 60 = some (.lstore_n 3) := by decide +kernel
theorem at90_61 : jm_at 90 61 = some (.lload_n 3) := by decide +kernel
theorem at90_62 : jm_at 90 62 = some (.aload_n 0) := by decide +kernel
theorem at90_63 : jm_at 90 63 = some (.getfield 18) := by decide +kernel
theorem at90_66 : jm_at 90 66 = some (.getfield 70) := by decide +kernel
theorem at90_69 : jm_at 90 69 = some (.lmul) := by decide +kernel
theorem at90_70 : jm_at 90 70 = some (.lload_n 1) := by decide +kernel
theorem at90_71 : jm_at 90 71 = some (.lcmp) := by decide +kernel
theorem at90_72 : jm_at 90 72 = some (.ifCond .ne 7) := by decide +kernel
theorem u90_40 {S : Option (Nat × (Nat → Int32))} {H : jm_H} {Q : Option Value → jm_H → Prop} {r0 : Nat} (h0 : jm_tg H r0 = 4) (h1 : ¬ jm_R H r0 0 = 0) (h2 : jm_tg H (jm_R H r0 0) = 3) (h3 : ¬ jm_R H r0 1 = 0) (h4 : jm_tg H (jm_R H r0 1) = 3) (h5 : ¬ (jm_L H (jm_R H r0 1) 3) = 0) : jm_w S 3 90 40 [.ref r0, .null, .null, .null, .null, .null, .null] [] H Q = if ¬ (lg_cmp ((((jm_L H (jm_R H r0 0) 3) <<< (Int32.toInt64 (40 : Int32) &&& 63)) / (jm_L H (jm_R H r0 1) 3)) * (jm_L H (jm_R H r0 1) 3)) ((jm_L H (jm_R H r0 0) 3) <<< (Int32.toInt64 (40 : Int32) &&& 63))) = 0 then jm_w S 3 90 79 [.ref r0, .long ((jm_L H (jm_R H r0 0) 3) <<< (Int32.toInt64 (40 : Int32) &&& 63)), .null, .long (((jm_L H (jm_R H r0 0) 3) <<< (Int32.toInt64 (40 : Int32) &&& 63)) / (jm_L H (jm_R H r0 1) 3)), .null, .null, .null] [] H Q else jm_w S 3 90 75 [.ref r0, .long ((jm_L H (jm_R H r0 0) 3) <<< (Int32.toInt64 (40 : Int32) &&& 63)), .null, .long (((jm_L H (jm_R H r0 0) 3) <<< (Int32.toInt64 (40 : Int32) &&& 63)) / (jm_L H (jm_R H r0 1) 3)), .null, .null, .null] [] H Q := (js1 at90_40 rfl rfl rfl).trans ((jsgR (H := H) at90_41 rv90g_12 rfl h0 h1 rfl).trans ((jsgL (H := H) at90_44 rv90g_70 rfl h2 rfl).trans ((jscb at90_47 rfl rfl).trans ((js0 at90_49 rfl rfl rfl).trans ((js1 at90_50 rfl rfl rfl).trans ((js1 at90_51 rfl rfl rfl).trans ((js1 at90_52 rfl rfl rfl).trans ((jsgR (H := H) at90_53 rv90g_18 rfl h0 h3 rfl).trans ((jsgL (H := H) at90_56 rv90g_70 rfl h4 rfl).trans ((jsldiv at90_59 h5 rfl).trans ((js1 at90_60 rfl rfl rfl).trans ((js1 at90_61 rfl rfl rfl).trans ((js1 at90_62 rfl rfl rfl).trans ((jsgR (H := H) at90_63 rv90g_18 rfl h0 h3 rfl).trans ((jsgL (H := H) at90_66 rv90g_70 rfl h4 rfl).trans ((js0 at90_69 rfl rfl rfl).trans ((js1 at90_70 rfl rfl rfl).trans ((js0 at90_71 rfl rfl rfl).trans (jsif (P := ¬ (lg_cmp ((((jm_L H (jm_R H r0 0) 3) <<< (Int32.toInt64 (40 : Int32) &&& 63)) / (jm_L H (jm_R H r0 1) 3)) * (jm_L H (jm_R H r0 1) 3)) ((jm_L H (jm_R H r0 0) 3) <<< (Int32.toInt64 (40 : Int32) &&& 63))) = 0) at90_72 rfl rfl)))))))))))))))))))
theorem at90_75 : jm_at 90 75 = some (.lconst 0) := by decide +kernel
theorem at90_76 : jm_at 90 76 = some (.goto 4) := by decide +kernel
theorem u90_75 {S : Option (Nat × (Nat → Int32))} {H : jm_H} {Q : Option Value → jm_H → Prop} {r0 : Nat} {y1 y3 : Int64} : jm_w S 3 90 75 [.ref r0, .long y1, .null, .long y3, .null, .null, .null] [] H Q = jm_w S 3 90 80 [.ref r0, .long y1, .null, .long y3, .null, .null, .null] [.long (0 : Int64)] H Q := (jscl at90_75 rfl rfl).trans (js2 at90_76 rfl rfl)
theorem at90_79 : jm_at 90 79 = some (.lconst 1) := by decide +kernel
theorem u90_79 {S : Option (Nat × (Nat → Int32))} {H : jm_H} {Q : Option Value → jm_H → Prop} {r0 : Nat} {y1 y3 : Int64} : jm_w S 3 90 79 [.ref r0, .long y1, .null, .long y3, .null, .null, .null] [] H Q = jm_w S 3 90 80 [.ref r0, .long y1, .null, .long y3, .null, .null, .null] [.long (1 : Int64)] H Q := jscl at90_79 rfl rfl
theorem at90_80 : jm_at 90 80 = some (.lstore 5) := by decide +kernel
theorem at90_82 : jm_at 90 82 = some (.aload_n 0) := by decide +kernel
theorem at90_83 : jm_at 90 83 = some (.getfield 21) := by decide +kernel
theorem at90_86 : jm_at 90 86 = some (.aload_n 0) := by decide +kernel
theorem at90_87 : jm_at 90 87 = some (.getfield 12) := by decide +kernel
theorem at90_90 : jm_at 90 90 = some (.getfield 31) := by decide +kernel
theorem rv90g_31 : jm_rv 90 (.getfield 31) = (0, 2, 2, 0) := by decide +kernel
theorem at90_93 : jm_at 90 93 = some (.aload_n 0) := by decide +kernel
theorem at90_94 : jm_at 90 94 = some (.getfield 18) := by decide +kernel
theorem at90_97 : jm_at 90 97 = some (.getfield 31) := by decide +kernel
theorem at90_100 : jm_at 90 100 = some (.imul) := by decide +kernel
theorem at90_101 : jm_at 90 101 = some (.lload_n 3) := by decide +kernel
theorem at90_102 : jm_at 90 102 = some (.lload 5) := by decide +kernel
theorem at90_104 : jm_at 90 104 = some (.lor) := by decide +kernel
theorem at90_105 : jm_at 90 105 = some (.aload_n 0) := by decide +kernel
theorem at90_106 : jm_at 90 106 = some (.getfield 12) := by decide +kernel
theorem at90_109 : jm_at 90 109 = some (.getfield 52) := by decide +kernel
theorem rv90g_52 : jm_rv 90 (.getfield 52) = (0, 2, 4, 0) := by decide +kernel
theorem at90_112 : jm_at 90 112 = some (.aload_n 0) := by decide +kernel
theorem at90_113 : jm_at 90 113 = some (.getfield 18) := by decide +kernel
theorem at90_116 : jm_at 90 116 = some (.getfield 52) := by decide +kernel
theorem at90_119 : jm_at 90 119 = some (.isub) := by decide +kernel
theorem at90_120 : jm_at 90 120 = some (.bipush 40) := by decide +kernel
theorem at90_122 : jm_at 90 122 = some (.isub) := by decide +kernel
theorem at90_123 : jm_at 90 123 = some (.invokevirtual 88) := by decide +kernel
theorem rv90i_88 : jm_rv 90 (.invokevirtual 88) = (2, 48, 0, 0) := by decide +kernel
theorem u90_80 {S : Option (Nat × (Nat → Int32))} {H : jm_H} {Q : Option Value → jm_H → Prop} {r0 : Nat} {y1 y3 q0 : Int64} (h0 : jm_tg H r0 = 4) (h1 : ¬ jm_R H r0 2 = 0) (h2 : ¬ jm_R H r0 0 = 0) (h3 : jm_tg H (jm_R H r0 0) = 3) (h4 : ¬ jm_R H r0 1 = 0) (h5 : jm_tg H (jm_R H r0 1) = 3) (h6 : jm_tg H (jm_R H r0 2) = 3) : jm_w S 3 90 80 [.ref r0, .long y1, .null, .long y3, .null, .null, .null] [.long q0] H Q = jm_c S 48 [.ref (jm_R H r0 2), .int ((jm_I H (jm_R H r0 0) 2) * (jm_I H (jm_R H r0 1) 2)), .long (y3 ||| q0), .int (((jm_I H (jm_R H r0 0) 4) - (jm_I H (jm_R H r0 1) 4)) - (40 : Int32))] H (fun v G => jm_w S 3 90 126 [.ref r0, .long y1, .null, .long y3, .null, .long q0, .null] (v.toList ++ []) G Q) := (js1 at90_80 rfl rfl rfl).trans ((js1 at90_82 rfl rfl rfl).trans ((jsgR (H := H) at90_83 rv90g_21 rfl h0 h1 rfl).trans ((js1 at90_86 rfl rfl rfl).trans ((jsgR (H := H) at90_87 rv90g_12 rfl h0 h2 rfl).trans ((jsgI (H := H) at90_90 rv90g_31 (Or.inl rfl) h3 rfl).trans ((js1 at90_93 rfl rfl rfl).trans ((jsgR (H := H) at90_94 rv90g_18 rfl h0 h4 rfl).trans ((jsgI (H := H) at90_97 rv90g_31 (Or.inl rfl) h5 rfl).trans ((js0 at90_100 rfl rfl rfl).trans ((js1 at90_101 rfl rfl rfl).trans ((js1 at90_102 rfl rfl rfl).trans ((js0 at90_104 rfl rfl rfl).trans ((js1 at90_105 rfl rfl rfl).trans ((jsgR (H := H) at90_106 rv90g_12 rfl h0 h2 rfl).trans ((jsgI (H := H) at90_109 rv90g_52 (Or.inl rfl) h3 rfl).trans ((js1 at90_112 rfl rfl rfl).trans ((jsgR (H := H) at90_113 rv90g_18 rfl h0 h4 rfl).trans ((jsgI (H := H) at90_116 rv90g_52 (Or.inl rfl) h5 rfl).trans ((js0 at90_119 rfl rfl rfl).trans ((jscb at90_120 rfl rfl).trans ((js0 at90_122 rfl rfl rfl).trans (jscall (H := H) (as := [.ref (jm_R H r0 2), .int ((jm_I H (jm_R H r0 0) 2) * (jm_I H (jm_R H r0 1) 2)), .long (y3 ||| q0), .int (((jm_I H (jm_R H r0 0) 4) - (jm_I H (jm_R H r0 1) 4)) - (40 : Int32))]) (q := []) at90_123 rfl rv90i_88 (jscutV rfl rfl rfl (Nat.le_of_ble_eq_true rfl) rfl h6) rfl (Nat.le_of_ble_eq_true rfl) rfl rfl))))))))))))))))))))))
theorem at90_126 : jm_at 90 126 = some (.return_) := by decide +kernel
theorem u90_126 {S : Option (Nat × (Nat → Int32))} {H : jm_H} {Q : Option Value → jm_H → Prop} {r0 : Nat} {y1 y3 y5 : Int64} : jm_w S 3 90 126 [.ref r0, .long y1, .null, .long y3, .null, .long y5, .null] [] H Q = Q none H := jsret_v at90_126 rfl
theorem en90 {S : Option (Nat × (Nat → Int32))} {H : jm_H} {Q : Option Value → jm_H → Prop} {r0 : Nat} : jm_c S 90 [.ref r0] H Q = jm_w S 3 90 0 [.ref r0, .null, .null, .null, .null, .null, .null] [] H Q := rfl
theorem at135_0 : jm_at 135 0 = some (.aload_n 0) := by decide +kernel
theorem at135_1 : jm_at 135 1 = some (.getfield 12) := by decide +kernel
theorem rv135g_12 : jm_rv 135 (.getfield 12) = (0, 3, 0, 0) := by decide +kernel
theorem at135_4 : jm_at 135 4 = some (.iload_n 3) := by decide +kernel
theorem at135_5 : jm_at 135 5 = some (.invokevirtual 48) := by decide +kernel
theorem rv135i_48 : jm_rv 135 (.invokevirtual 48) = (2, 45, 0, 0) := by decide +kernel
theorem u135_0 {S : Option (Nat × (Nat → Int32))} {H : jm_H} {Q : Option Value → jm_H → Prop} {r0 : Nat} {x1 x2 x3 x4 : Int32} (h0 : jm_tg H r0 = 4) (h1 : ¬ jm_R H r0 0 = 0) (h2 : jm_tg H (jm_R H r0 0) = 3) : jm_w S 6 135 0 [.ref r0, .int x1, .int x2, .int x3, .int x4] [] H Q = jm_c S 45 [.ref (jm_R H r0 0), .int x3] H (fun v G => jm_w S 6 135 8 [.ref r0, .int x1, .int x2, .int x3, .int x4] (v.toList ++ []) G Q) := (js1 at135_0 rfl rfl rfl).trans ((jsgR (H := H) at135_1 rv135g_12 rfl h0 h1 rfl).trans ((js1 at135_4 rfl rfl rfl).trans (jscall (H := H) (as := [.ref (jm_R H r0 0), .int x3]) (q := []) at135_5 rfl rv135i_48 (jscutV rfl rfl rfl (Nat.le_of_ble_eq_true rfl) rfl h2) rfl (Nat.le_of_ble_eq_true rfl) rfl rfl)))
theorem at135_8 : jm_at 135 8 = some (.aload_n 0) := by decide +kernel
theorem at135_9 : jm_at 135 9 = some (.getfield 18) := by decide +kernel
theorem rv135g_18 : jm_rv 135 (.getfield 18) = (0, 3, 1, 0) := by decide +kernel
theorem at135_12 : jm_at 135 12 = some (.iload 4) := by decide +kernel
theorem at135_14 : jm_at 135 14 = some (.invokevirtual 48) := by decide +kernel
theorem u135_8 {S : Option (Nat × (Nat → Int32))} {H : jm_H} {Q : Option Value → jm_H → Prop} {r0 : Nat} {x1 x2 x3 x4 : Int32} (h0 : jm_tg H r0 = 4) (h1 : ¬ jm_R H r0 1 = 0) (h2 : jm_tg H (jm_R H r0 1) = 3) : jm_w S 6 135 8 [.ref r0, .int x1, .int x2, .int x3, .int x4] [] H Q = jm_c S 45 [.ref (jm_R H r0 1), .int x4] H (fun v G => jm_w S 6 135 17 [.ref r0, .int x1, .int x2, .int x3, .int x4] (v.toList ++ []) G Q) := (js1 at135_8 rfl rfl rfl).trans ((jsgR (H := H) at135_9 rv135g_18 rfl h0 h1 rfl).trans ((js1 at135_12 rfl rfl rfl).trans (jscall (H := H) (as := [.ref (jm_R H r0 1), .int x4]) (q := []) at135_14 rfl rv135i_48 (jscutV rfl rfl rfl (Nat.le_of_ble_eq_true rfl) rfl h2) rfl (Nat.le_of_ble_eq_true rfl) rfl rfl)))
theorem at135_17 : jm_at 135 17 = some (.aload_n 0) := by decide +kernel
theorem at135_18 : jm_at 135 18 = some (.invokevirtual 38) := by decide +kernel
theorem rv135i_38 : jm_rv 135 (.invokevirtual 38) = (2, 90, 0, 0) := by decide +kernel
theorem u135_17 {S : Option (Nat × (Nat → Int32))} {H : jm_H} {Q : Option Value → jm_H → Prop} {r0 : Nat} {x1 x2 x3 x4 : Int32} (h0 : jm_tg H r0 = 4) : jm_w S 6 135 17 [.ref r0, .int x1, .int x2, .int x3, .int x4] [] H Q = jm_c S 90 [.ref r0] H (fun v G => jm_w S 6 135 21 [.ref r0, .int x1, .int x2, .int x3, .int x4] (v.toList ++ []) G Q) := (js1 at135_17 rfl rfl rfl).trans (jscall (H := H) (as := [.ref r0]) (q := []) at135_18 rfl rv135i_38 (jscutV rfl rfl rfl (Nat.le_of_ble_eq_true rfl) rfl h0) rfl (Nat.le_of_ble_eq_true rfl) rfl rfl)
theorem at135_21 : jm_at 135 21 = some (.aload_n 0) := by decide +kernel
theorem at135_22 : jm_at 135 22 = some (.iload_n 1) := by decide +kernel
theorem at135_23 : jm_at 135 23 = some (.iload_n 2) := by decide +kernel
theorem at135_24 : jm_at 135 24 = some (.aload_n 0) := by decide +kernel
theorem at135_25 : jm_at 135 25 = some (.getfield 21) := by decide +kernel
theorem rv135g_21 : jm_rv 135 (.getfield 21) = (0, 3, 2, 0) := by decide +kernel
theorem at135_28 : jm_at 135 28 = some (.invokevirtual 41) := by decide +kernel
theorem rv135i_41 : jm_rv 135 (.invokevirtual 41) = (2, 49, 0, 0) := by decide +kernel
theorem u135_21 {S : Option (Nat × (Nat → Int32))} {H : jm_H} {Q : Option Value → jm_H → Prop} {r0 : Nat} {x1 x2 x3 x4 : Int32} (h0 : jm_tg H r0 = 4) (h1 : ¬ jm_R H r0 2 = 0) : jm_w S 6 135 21 [.ref r0, .int x1, .int x2, .int x3, .int x4] [] H Q = jm_c S 49 [.ref r0, .int x1, .int x2, .ref (jm_R H r0 2)] H (fun v G => jm_w S 6 135 31 [.ref r0, .int x1, .int x2, .int x3, .int x4] (v.toList ++ []) G Q) := (js1 at135_21 rfl rfl rfl).trans ((js1 at135_22 rfl rfl rfl).trans ((js1 at135_23 rfl rfl rfl).trans ((js1 at135_24 rfl rfl rfl).trans ((jsgR (H := H) at135_25 rv135g_21 rfl h0 h1 rfl).trans (jscall (H := H) (as := [.ref r0, .int x1, .int x2, .ref (jm_R H r0 2)]) (q := []) at135_28 rfl rv135i_41 (jscutV rfl rfl rfl (Nat.le_of_ble_eq_true rfl) rfl h0) rfl (Nat.le_of_ble_eq_true rfl) rfl rfl)))))
theorem at135_31 : jm_at 135 31 = some (.ireturn) := by decide +kernel
theorem u135_31 {S : Option (Nat × (Nat → Int32))} {H : jm_H} {Q : Option Value → jm_H → Prop} {r0 : Nat} {x1 x2 x3 x4 p0 : Int32} : jm_w S 6 135 31 [.ref r0, .int x1, .int x2, .int x3, .int x4] [.int p0] H Q = Q (some (.int p0)) H := jsret_i at135_31 rfl
theorem en135 {S : Option (Nat × (Nat → Int32))} {H : jm_H} {Q : Option Value → jm_H → Prop} {r0 : Nat} {x1 x2 x3 x4 : Int32} : jm_c S 135 [.ref r0, .int x1, .int x2, .int x3, .int x4] H Q = jm_w S 6 135 0 [.ref r0, .int x1, .int x2, .int x3, .int x4] [] H Q := rfl
theorem at137_0 : jm_at 137 0 = some (.aload_n 0) := by decide +kernel
theorem at137_1 : jm_at 137 1 = some (.getfield 12) := by decide +kernel
theorem rv137g_12 : jm_rv 137 (.getfield 12) = (0, 3, 0, 0) := by decide +kernel
theorem at137_4 : jm_at 137 4 = some (.iload_n 1) := by decide +kernel
theorem at137_5 : jm_at 137 5 = some (.iload_n 2) := by decide +kernel
theorem at137_6 : jm_at 137 6 = some (.iload_n 3) := by decide +kernel
theorem at137_7 : jm_at 137 7 = some (.invokevirtual 24) := by decide +kernel
theorem rv137i_24 : jm_rv 137 (.invokevirtual 24) = (2, 68, 0, 0) := by decide +kernel
theorem u137_0 {S : Option (Nat × (Nat → Int32))} {H : jm_H} {Q : Option Value → jm_H → Prop} {r0 : Nat} {x1 x2 x3 x4 x5 : Int32} (h0 : jm_tg H r0 = 4) (h1 : ¬ jm_R H r0 0 = 0) (h2 : jm_tg H (jm_R H r0 0) = 3) : jm_w S 6 137 0 [.ref r0, .int x1, .int x2, .int x3, .int x4, .int x5] [] H Q = jm_c S 68 [.ref (jm_R H r0 0), .int x1, .int x2, .int x3] H (fun v G => jm_w S 6 137 10 [.ref r0, .int x1, .int x2, .int x3, .int x4, .int x5] (v.toList ++ []) G Q) := (js1 at137_0 rfl rfl rfl).trans ((jsgR (H := H) at137_1 rv137g_12 rfl h0 h1 rfl).trans ((js1 at137_4 rfl rfl rfl).trans ((js1 at137_5 rfl rfl rfl).trans ((js1 at137_6 rfl rfl rfl).trans (jscall (H := H) (as := [.ref (jm_R H r0 0), .int x1, .int x2, .int x3]) (q := []) at137_7 rfl rv137i_24 (jscutV rfl rfl rfl (Nat.le_of_ble_eq_true rfl) rfl h2) rfl (Nat.le_of_ble_eq_true rfl) rfl rfl)))))
theorem at137_10 : jm_at 137 10 = some (.aload_n 0) := by decide +kernel
theorem at137_11 : jm_at 137 11 = some (.getfield 18) := by decide +kernel
theorem rv137g_18 : jm_rv 137 (.getfield 18) = (0, 3, 1, 0) := by decide +kernel
theorem at137_14 : jm_at 137 14 = some (.iload_n 1) := by decide +kernel
theorem at137_15 : jm_at 137 15 = some (.iload_n 2) := by decide +kernel
theorem at137_16 : jm_at 137 16 = some (.iload 4) := by decide +kernel
theorem at137_18 : jm_at 137 18 = some (.invokevirtual 24) := by decide +kernel
theorem u137_10 {S : Option (Nat × (Nat → Int32))} {H : jm_H} {Q : Option Value → jm_H → Prop} {r0 : Nat} {x1 x2 x3 x4 x5 : Int32} (h0 : jm_tg H r0 = 4) (h1 : ¬ jm_R H r0 1 = 0) (h2 : jm_tg H (jm_R H r0 1) = 3) : jm_w S 6 137 10 [.ref r0, .int x1, .int x2, .int x3, .int x4, .int x5] [] H Q = jm_c S 68 [.ref (jm_R H r0 1), .int x1, .int x2, .int x4] H (fun v G => jm_w S 6 137 21 [.ref r0, .int x1, .int x2, .int x3, .int x4, .int x5] (v.toList ++ []) G Q) := (js1 at137_10 rfl rfl rfl).trans ((jsgR (H := H) at137_11 rv137g_18 rfl h0 h1 rfl).trans ((js1 at137_14 rfl rfl rfl).trans ((js1 at137_15 rfl rfl rfl).trans ((js1 at137_16 rfl rfl rfl).trans (jscall (H := H) (as := [.ref (jm_R H r0 1), .int x1, .int x2, .int x4]) (q := []) at137_18 rfl rv137i_24 (jscutV rfl rfl rfl (Nat.le_of_ble_eq_true rfl) rfl h2) rfl (Nat.le_of_ble_eq_true rfl) rfl rfl)))))
theorem at137_21 : jm_at 137 21 = some (.aload_n 0) := by decide +kernel
theorem at137_22 : jm_at 137 22 = some (.invokevirtual 35) := by decide +kernel
theorem rv137i_35 : jm_rv 137 (.invokevirtual 35) = (2, 89, 0, 0) := by decide +kernel
theorem u137_21 {S : Option (Nat × (Nat → Int32))} {H : jm_H} {Q : Option Value → jm_H → Prop} {r0 : Nat} {x1 x2 x3 x4 x5 : Int32} (h0 : jm_tg H r0 = 4) : jm_w S 6 137 21 [.ref r0, .int x1, .int x2, .int x3, .int x4, .int x5] [] H Q = jm_c S 89 [.ref r0] H (fun v G => jm_w S 6 137 25 [.ref r0, .int x1, .int x2, .int x3, .int x4, .int x5] (v.toList ++ []) G Q) := (js1 at137_21 rfl rfl rfl).trans (jscall (H := H) (as := [.ref r0]) (q := []) at137_22 rfl rv137i_35 (jscutV rfl rfl rfl (Nat.le_of_ble_eq_true rfl) rfl h0) rfl (Nat.le_of_ble_eq_true rfl) rfl rfl)
theorem at137_25 : jm_at 137 25 = some (.aload_n 0) := by decide +kernel
theorem at137_26 : jm_at 137 26 = some (.getfield 12) := by decide +kernel
theorem at137_29 : jm_at 137 29 = some (.aload_n 0) := by decide +kernel
theorem at137_30 : jm_at 137 30 = some (.getfield 21) := by decide +kernel
theorem rv137g_21 : jm_rv 137 (.getfield 21) = (0, 3, 2, 0) := by decide +kernel
theorem at137_33 : jm_at 137 33 = some (.invokevirtual 55) := by decide +kernel
theorem rv137i_55 : jm_rv 137 (.invokevirtual 55) = (2, 51, 0, 0) := by decide +kernel
theorem u137_25 {S : Option (Nat × (Nat → Int32))} {H : jm_H} {Q : Option Value → jm_H → Prop} {r0 : Nat} {x1 x2 x3 x4 x5 : Int32} (h0 : jm_tg H r0 = 4) (h1 : ¬ jm_R H r0 0 = 0) (h2 : ¬ jm_R H r0 2 = 0) (h3 : jm_tg H (jm_R H r0 0) = 3) : jm_w S 6 137 25 [.ref r0, .int x1, .int x2, .int x3, .int x4, .int x5] [] H Q = jm_c S 51 [.ref (jm_R H r0 0), .ref (jm_R H r0 2)] H (fun v G => jm_w S 6 137 36 [.ref r0, .int x1, .int x2, .int x3, .int x4, .int x5] (v.toList ++ []) G Q) := (js1 at137_25 rfl rfl rfl).trans ((jsgR (H := H) at137_26 rv137g_12 rfl h0 h1 rfl).trans ((js1 at137_29 rfl rfl rfl).trans ((jsgR (H := H) at137_30 rv137g_21 rfl h0 h2 rfl).trans (jscall (H := H) (as := [.ref (jm_R H r0 0), .ref (jm_R H r0 2)]) (q := []) at137_33 rfl rv137i_55 (jscutV rfl rfl rfl (Nat.le_of_ble_eq_true rfl) rfl h3) rfl (Nat.le_of_ble_eq_true rfl) rfl rfl))))
theorem at137_36 : jm_at 137 36 = some (.aload_n 0) := by decide +kernel
theorem at137_37 : jm_at 137 37 = some (.getfield 18) := by decide +kernel
theorem at137_40 : jm_at 137 40 = some (.iload_n 1) := by decide +kernel
theorem at137_41 : jm_at 137 41 = some (.iload_n 2) := by decide +kernel
theorem at137_42 : jm_at 137 42 = some (.iload 5) := by decide +kernel
theorem at137_44 : jm_at 137 44 = some (.invokevirtual 24) := by decide +kernel
theorem u137_36 {S : Option (Nat × (Nat → Int32))} {H : jm_H} {Q : Option Value → jm_H → Prop} {r0 : Nat} {x1 x2 x3 x4 x5 : Int32} (h0 : jm_tg H r0 = 4) (h1 : ¬ jm_R H r0 1 = 0) (h2 : jm_tg H (jm_R H r0 1) = 3) : jm_w S 6 137 36 [.ref r0, .int x1, .int x2, .int x3, .int x4, .int x5] [] H Q = jm_c S 68 [.ref (jm_R H r0 1), .int x1, .int x2, .int x5] H (fun v G => jm_w S 6 137 47 [.ref r0, .int x1, .int x2, .int x3, .int x4, .int x5] (v.toList ++ []) G Q) := (js1 at137_36 rfl rfl rfl).trans ((jsgR (H := H) at137_37 rv137g_18 rfl h0 h1 rfl).trans ((js1 at137_40 rfl rfl rfl).trans ((js1 at137_41 rfl rfl rfl).trans ((js1 at137_42 rfl rfl rfl).trans (jscall (H := H) (as := [.ref (jm_R H r0 1), .int x1, .int x2, .int x5]) (q := []) at137_44 rfl rv137i_24 (jscutV rfl rfl rfl (Nat.le_of_ble_eq_true rfl) rfl h2) rfl (Nat.le_of_ble_eq_true rfl) rfl rfl)))))
theorem at137_47 : jm_at 137 47 = some (.aload_n 0) := by decide +kernel
theorem at137_48 : jm_at 137 48 = some (.invokevirtual 28) := by decide +kernel
theorem rv137i_28 : jm_rv 137 (.invokevirtual 28) = (2, 88, 0, 0) := by decide +kernel
theorem u137_47 {S : Option (Nat × (Nat → Int32))} {H : jm_H} {Q : Option Value → jm_H → Prop} {r0 : Nat} {x1 x2 x3 x4 x5 : Int32} (h0 : jm_tg H r0 = 4) : jm_w S 6 137 47 [.ref r0, .int x1, .int x2, .int x3, .int x4, .int x5] [] H Q = jm_c S 88 [.ref r0] H (fun v G => jm_w S 6 137 51 [.ref r0, .int x1, .int x2, .int x3, .int x4, .int x5] (v.toList ++ []) G Q) := (js1 at137_47 rfl rfl rfl).trans (jscall (H := H) (as := [.ref r0]) (q := []) at137_48 rfl rv137i_28 (jscutV rfl rfl rfl (Nat.le_of_ble_eq_true rfl) rfl h0) rfl (Nat.le_of_ble_eq_true rfl) rfl rfl)
theorem at137_51 : jm_at 137 51 = some (.aload_n 0) := by decide +kernel
theorem at137_52 : jm_at 137 52 = some (.iload_n 1) := by decide +kernel
theorem at137_53 : jm_at 137 53 = some (.iload_n 2) := by decide +kernel
theorem at137_54 : jm_at 137 54 = some (.aload_n 0) := by decide +kernel
theorem at137_55 : jm_at 137 55 = some (.getfield 21) := by decide +kernel
theorem at137_58 : jm_at 137 58 = some (.invokevirtual 41) := by decide +kernel
theorem rv137i_41 : jm_rv 137 (.invokevirtual 41) = (2, 49, 0, 0) := by decide +kernel
theorem u137_51 {S : Option (Nat × (Nat → Int32))} {H : jm_H} {Q : Option Value → jm_H → Prop} {r0 : Nat} {x1 x2 x3 x4 x5 : Int32} (h0 : jm_tg H r0 = 4) (h1 : ¬ jm_R H r0 2 = 0) : jm_w S 6 137 51 [.ref r0, .int x1, .int x2, .int x3, .int x4, .int x5] [] H Q = jm_c S 49 [.ref r0, .int x1, .int x2, .ref (jm_R H r0 2)] H (fun v G => jm_w S 6 137 61 [.ref r0, .int x1, .int x2, .int x3, .int x4, .int x5] (v.toList ++ []) G Q) := (js1 at137_51 rfl rfl rfl).trans ((js1 at137_52 rfl rfl rfl).trans ((js1 at137_53 rfl rfl rfl).trans ((js1 at137_54 rfl rfl rfl).trans ((jsgR (H := H) at137_55 rv137g_21 rfl h0 h1 rfl).trans (jscall (H := H) (as := [.ref r0, .int x1, .int x2, .ref (jm_R H r0 2)]) (q := []) at137_58 rfl rv137i_41 (jscutV rfl rfl rfl (Nat.le_of_ble_eq_true rfl) rfl h0) rfl (Nat.le_of_ble_eq_true rfl) rfl rfl)))))
theorem at137_61 : jm_at 137 61 = some (.ireturn) := by decide +kernel
theorem u137_61 {S : Option (Nat × (Nat → Int32))} {H : jm_H} {Q : Option Value → jm_H → Prop} {r0 : Nat} {x1 x2 x3 x4 x5 p0 : Int32} : jm_w S 6 137 61 [.ref r0, .int x1, .int x2, .int x3, .int x4, .int x5] [.int p0] H Q = Q (some (.int p0)) H := jsret_i at137_61 rfl
theorem en137 {S : Option (Nat × (Nat → Int32))} {H : jm_H} {Q : Option Value → jm_H → Prop} {r0 : Nat} {x1 x2 x3 x4 x5 : Int32} : jm_c S 137 [.ref r0, .int x1, .int x2, .int x3, .int x4, .int x5] H Q = jm_w S 6 137 0 [.ref r0, .int x1, .int x2, .int x3, .int x4, .int x5] [] H Q := rfl
theorem at140_0 : jm_at 140 0 = some (.aload_n 0) := by decide +kernel
theorem at140_1 : jm_at 140 1 = some (.getfield 21) := by decide +kernel
theorem rv140g_21 : jm_rv 140 (.getfield 21) = (0, 3, 2, 0) := by decide +kernel
theorem at140_4 : jm_at 140 4 = some (.iload_n 1) := by decide +kernel
theorem at140_5 : jm_at 140 5 = some (.iload_n 2) := by decide +kernel
theorem at140_6 : jm_at 140 6 = some (.iload_n 3) := by decide +kernel
theorem at140_7 : jm_at 140 7 = some (.invokevirtual 24) := by decide +kernel
theorem rv140i_24 : jm_rv 140 (.invokevirtual 24) = (2, 68, 0, 0) := by decide +kernel
theorem u140_0 {S : Option (Nat × (Nat → Int32))} {H : jm_H} {Q : Option Value → jm_H → Prop} {r0 : Nat} {x1 x2 x3 : Int32} (h0 : jm_tg H r0 = 4) (h1 : ¬ jm_R H r0 2 = 0) (h2 : jm_tg H (jm_R H r0 2) = 3) : jm_w S 6 140 0 [.ref r0, .int x1, .int x2, .int x3] [] H Q = jm_c S 68 [.ref (jm_R H r0 2), .int x1, .int x2, .int x3] H (fun v G => jm_w S 6 140 10 [.ref r0, .int x1, .int x2, .int x3] (v.toList ++ []) G Q) := (js1 at140_0 rfl rfl rfl).trans ((jsgR (H := H) at140_1 rv140g_21 rfl h0 h1 rfl).trans ((js1 at140_4 rfl rfl rfl).trans ((js1 at140_5 rfl rfl rfl).trans ((js1 at140_6 rfl rfl rfl).trans (jscall (H := H) (as := [.ref (jm_R H r0 2), .int x1, .int x2, .int x3]) (q := []) at140_7 rfl rv140i_24 (jscutV rfl rfl rfl (Nat.le_of_ble_eq_true rfl) rfl h2) rfl (Nat.le_of_ble_eq_true rfl) rfl rfl)))))
theorem at140_10 : jm_at 140 10 = some (.aload_n 0) := by decide +kernel
theorem at140_11 : jm_at 140 11 = some (.getfield 21) := by decide +kernel
theorem at140_14 : jm_at 140 14 = some (.dup) := by decide +kernel
theorem at140_15 : jm_at 140 15 = some (.getfield 52) := by decide +kernel
theorem rv140g_52 : jm_rv 140 (.getfield 52) = (0, 2, 4, 0) := by decide +kernel
theorem at140_18 : jm_at 140 18 = some (.iconst 1) := by decide +kernel
theorem at140_19 : jm_at 140 19 = some (.isub) := by decide +kernel
theorem at140_20 : jm_at 140 20 = some (.putfield 52) := by decide +kernel
theorem rv140p_52 : jm_rv 140 (.putfield 52) = (0, 2, 4, 0) := by decide +kernel
theorem at140_23 : jm_at 140 23 = some (.aload_n 0) := by decide +kernel
theorem at140_24 : jm_at 140 24 = some (.iload_n 1) := by decide +kernel
theorem at140_25 : jm_at 140 25 = some (.iload_n 2) := by decide +kernel
theorem at140_26 : jm_at 140 26 = some (.aload_n 0) := by decide +kernel
theorem at140_27 : jm_at 140 27 = some (.getfield 21) := by decide +kernel
theorem at140_30 : jm_at 140 30 = some (.invokevirtual 41) := by decide +kernel
theorem rv140i_41 : jm_rv 140 (.invokevirtual 41) = (2, 49, 0, 0) := by decide +kernel
theorem u140_10 {S : Option (Nat × (Nat → Int32))} {H : jm_H} {Q : Option Value → jm_H → Prop} {r0 : Nat} {x1 x2 x3 : Int32} (h0 : jm_tg H r0 = 4) (h1 : ¬ jm_R H r0 2 = 0) (h2 : jm_tg H (jm_R H r0 2) = 3) : jm_w S 6 140 10 [.ref r0, .int x1, .int x2, .int x3] [] H Q = jm_c S 49 [.ref r0, .int x1, .int x2, .ref (jm_R H r0 2)] (jm_pI H (jm_R H r0 2) 4 ((jm_I H (jm_R H r0 2) 4) - (1 : Int32))) (fun v G => jm_w S 6 140 33 [.ref r0, .int x1, .int x2, .int x3] (v.toList ++ []) G Q) := (js1 at140_10 rfl rfl rfl).trans ((jsgR (H := H) at140_11 rv140g_21 rfl h0 h1 rfl).trans ((js0 at140_14 rfl rfl rfl).trans ((jsgI (H := H) at140_15 rv140g_52 (Or.inl rfl) h2 rfl).trans ((jsci at140_18 rfl rfl).trans ((js0 at140_19 rfl rfl rfl).trans ((jspI (H := H) at140_20 rv140p_52 rfl h2 rfl).trans ((js1 at140_23 rfl rfl rfl).trans ((js1 at140_24 rfl rfl rfl).trans ((js1 at140_25 rfl rfl rfl).trans ((js1 at140_26 rfl rfl rfl).trans ((jsgR (H := (jm_pI H (jm_R H r0 2) 4 ((jm_I H (jm_R H r0 2) 4) - (1 : Int32)))) at140_27 rv140g_21 rfl h0 h1 rfl).trans (jscall (H := (jm_pI H (jm_R H r0 2) 4 ((jm_I H (jm_R H r0 2) 4) - (1 : Int32)))) (as := [.ref r0, .int x1, .int x2, .ref (jm_R H r0 2)]) (q := []) at140_30 rfl rv140i_41 (jscutV rfl rfl rfl (Nat.le_of_ble_eq_true rfl) rfl h0) rfl (Nat.le_of_ble_eq_true rfl) rfl rfl))))))))))))
theorem at140_33 : jm_at 140 33 = some (.ireturn) := by decide +kernel
theorem u140_33 {S : Option (Nat × (Nat → Int32))} {H : jm_H} {Q : Option Value → jm_H → Prop} {r0 : Nat} {x1 x2 x3 p0 : Int32} : jm_w S 6 140 33 [.ref r0, .int x1, .int x2, .int x3] [.int p0] H Q = Q (some (.int p0)) H := jsret_i at140_33 rfl
theorem en140 {S : Option (Nat × (Nat → Int32))} {H : jm_H} {Q : Option Value → jm_H → Prop} {r0 : Nat} {x1 x2 x3 : Int32} : jm_c S 140 [.ref r0, .int x1, .int x2, .int x3] H Q = jm_w S 6 140 0 [.ref r0, .int x1, .int x2, .int x3] [] H Q := rfl
theorem at119_0 : jm_at 119 0 = some (.aload_n 0) := by decide +kernel
theorem at119_1 : jm_at 119 1 = some (.iconst 0) := by decide +kernel
theorem at119_2 : jm_at 119 2 = some (.putfield 15) := by decide +kernel
theorem rv119p_15 : jm_rv 119 (.putfield 15) = (0, 0, 1, 0) := by decide +kernel
theorem at119_5 : jm_at 119 5 = some (.aload_n 1) := by decide +kernel
theorem at119_6 : jm_at 119 6 = some (.getfield 19) := by decide +kernel
theorem rv119g_19 : jm_rv 119 (.getfield 19) = (0, 2, 1, 0) := by decide +kernel
theorem at119_9 : jm_at 119 9 = some (.ifCond .eq 22) := by decide +kernel
theorem u119_0 {S : Option (Nat × (Nat → Int32))} {H : jm_H} {Q : Option Value → jm_H → Prop} {r0 r1 : Nat} (h0 : jm_tg H r0 = 1) (h1 : jm_tg H r1 = 3) : jm_w S 3 119 0 [.ref r0, .ref r1, .null, .null, .null, .null, .null, .null, .null] [] H Q = if (jm_I (jm_pI H r0 1 (0 : Int32)) r1 1) = 0 then jm_w S 3 119 31 [.ref r0, .ref r1, .null, .null, .null, .null, .null, .null, .null] [] (jm_pI H r0 1 (0 : Int32)) Q else jm_w S 3 119 12 [.ref r0, .ref r1, .null, .null, .null, .null, .null, .null, .null] [] (jm_pI H r0 1 (0 : Int32)) Q := (js1 at119_0 rfl rfl rfl).trans ((jsci at119_1 rfl rfl).trans ((jspI (H := H) at119_2 rv119p_15 rfl h0 rfl).trans ((js1 at119_5 rfl rfl rfl).trans ((jsgI (H := (jm_pI H r0 1 (0 : Int32))) at119_6 rv119g_19 (Or.inr rfl) h1 rfl).trans (jsif (P := (jm_I (jm_pI H r0 1 (0 : Int32)) r1 1) = 0) at119_9 rfl rfl)))))
theorem at119_12 : jm_at 119 12 = some (.aload_n 0) := by decide +kernel
theorem at119_13 : jm_at 119 13 = some (.bipush 110) := by decide +kernel
theorem at119_15 : jm_at 119 15 = some (.invokevirtual 25) := by decide +kernel
theorem rv119i_25 : jm_rv 119 (.invokevirtual 25) = (2, 120, 0, 0) := by decide +kernel
theorem u119_12 {S : Option (Nat × (Nat → Int32))} {H : jm_H} {Q : Option Value → jm_H → Prop} {r0 r1 : Nat} (h0 : jm_tg H r0 = 1) : jm_w S 3 119 12 [.ref r0, .ref r1, .null, .null, .null, .null, .null, .null, .null] [] H Q = jm_c S 120 [.ref r0, .int (110 : Int32)] H (fun v G => jm_w S 3 119 18 [.ref r0, .ref r1, .null, .null, .null, .null, .null, .null, .null] (v.toList ++ []) G Q) := (js1 at119_12 rfl rfl rfl).trans ((jscb at119_13 rfl rfl).trans (jscall (H := H) (as := [.ref r0, .int (110 : Int32)]) (q := []) at119_15 rfl rv119i_25 (jscutV rfl rfl rfl (Nat.le_of_ble_eq_true rfl) rfl h0) rfl (Nat.le_of_ble_eq_true rfl) rfl rfl))
theorem at119_18 : jm_at 119 18 = some (.aload_n 0) := by decide +kernel
theorem at119_19 : jm_at 119 19 = some (.bipush 105) := by decide +kernel
theorem at119_21 : jm_at 119 21 = some (.invokevirtual 25) := by decide +kernel
theorem u119_18 {S : Option (Nat × (Nat → Int32))} {H : jm_H} {Q : Option Value → jm_H → Prop} {r0 r1 : Nat} (h0 : jm_tg H r0 = 1) : jm_w S 3 119 18 [.ref r0, .ref r1, .null, .null, .null, .null, .null, .null, .null] [] H Q = jm_c S 120 [.ref r0, .int (105 : Int32)] H (fun v G => jm_w S 3 119 24 [.ref r0, .ref r1, .null, .null, .null, .null, .null, .null, .null] (v.toList ++ []) G Q) := (js1 at119_18 rfl rfl rfl).trans ((jscb at119_19 rfl rfl).trans (jscall (H := H) (as := [.ref r0, .int (105 : Int32)]) (q := []) at119_21 rfl rv119i_25 (jscutV rfl rfl rfl (Nat.le_of_ble_eq_true rfl) rfl h0) rfl (Nat.le_of_ble_eq_true rfl) rfl rfl))
theorem at119_24 : jm_at 119 24 = some (.aload_n 0) := by decide +kernel
theorem at119_25 : jm_at 119 25 = some (.bipush 108) := by decide +kernel
theorem at119_27 : jm_at 119 27 = some (.invokevirtual 25) := by decide +kernel
theorem u119_24 {S : Option (Nat × (Nat → Int32))} {H : jm_H} {Q : Option Value → jm_H → Prop} {r0 r1 : Nat} (h0 : jm_tg H r0 = 1) : jm_w S 3 119 24 [.ref r0, .ref r1, .null, .null, .null, .null, .null, .null, .null] [] H Q = jm_c S 120 [.ref r0, .int (108 : Int32)] H (fun v G => jm_w S 3 119 30 [.ref r0, .ref r1, .null, .null, .null, .null, .null, .null, .null] (v.toList ++ []) G Q) := (js1 at119_24 rfl rfl rfl).trans ((jscb at119_25 rfl rfl).trans (jscall (H := H) (as := [.ref r0, .int (108 : Int32)]) (q := []) at119_27 rfl rv119i_25 (jscutV rfl rfl rfl (Nat.le_of_ble_eq_true rfl) rfl h0) rfl (Nat.le_of_ble_eq_true rfl) rfl rfl))
theorem at119_30 : jm_at 119 30 = some (.return_) := by decide +kernel
theorem u119_30 {S : Option (Nat × (Nat → Int32))} {H : jm_H} {Q : Option Value → jm_H → Prop} {r0 r1 : Nat} : jm_w S 3 119 30 [.ref r0, .ref r1, .null, .null, .null, .null, .null, .null, .null] [] H Q = Q none H := jsret_v at119_30 rfl
theorem at119_31 : jm_at 119 31 = some (.aload_n 1) := by decide +kernel
theorem at119_32 : jm_at 119 32 = some (.getfield 29) := by decide +kernel
theorem rv119g_29 : jm_rv 119 (.getfield 29) = (0, 2, 2, 0) := by decide +kernel
theorem at119_35 : jm_at 119 35 = some (.ifCond .ge 9) := by decide +kernel
theorem u119_31 {S : Option (Nat × (Nat → Int32))} {H : jm_H} {Q : Option Value → jm_H → Prop} {r0 r1 : Nat} (h0 : jm_tg H r1 = 3) : jm_w S 3 119 31 [.ref r0, .ref r1, .null, .null, .null, .null, .null, .null, .null] [] H Q = if 0 ≤ (jm_I H r1 2) then jm_w S 3 119 44 [.ref r0, .ref r1, .null, .null, .null, .null, .null, .null, .null] [] H Q else jm_w S 3 119 38 [.ref r0, .ref r1, .null, .null, .null, .null, .null, .null, .null] [] H Q := (js1 at119_31 rfl rfl rfl).trans ((jsgI (H := H) at119_32 rv119g_29 (Or.inl rfl) h0 rfl).trans (jsif (P := 0 ≤ (jm_I H r1 2)) at119_35 rfl rfl))
theorem at119_38 : jm_at 119 38 = some (.aload_n 0) := by decide +kernel
theorem at119_39 : jm_at 119 39 = some (.bipush 45) := by decide +kernel
theorem at119_41 : jm_at 119 41 = some (.invokevirtual 25) := by decide +kernel
theorem u119_38 {S : Option (Nat × (Nat → Int32))} {H : jm_H} {Q : Option Value → jm_H → Prop} {r0 r1 : Nat} (h0 : jm_tg H r0 = 1) : jm_w S 3 119 38 [.ref r0, .ref r1, .null, .null, .null, .null, .null, .null, .null] [] H Q = jm_c S 120 [.ref r0, .int (45 : Int32)] H (fun v G => jm_w S 3 119 44 [.ref r0, .ref r1, .null, .null, .null, .null, .null, .null, .null] (v.toList ++ []) G Q) := (js1 at119_38 rfl rfl rfl).trans ((jscb at119_39 rfl rfl).trans (jscall (H := H) (as := [.ref r0, .int (45 : Int32)]) (q := []) at119_41 rfl rv119i_25 (jscutV rfl rfl rfl (Nat.le_of_ble_eq_true rfl) rfl h0) rfl (Nat.le_of_ble_eq_true rfl) rfl rfl))
theorem at119_44 : jm_at 119 44 = some (.iconst 0) := by decide +kernel
theorem at119_45 : jm_at 119 45 = some (.aload_n 1) := by decide +kernel
theorem at119_46 : jm_at 119 46 = some (.getfield 32) := by decide +kernel
theorem rv119g_32 : jm_rv 119 (.getfield 32) = (0, 2, 4, 0) := by decide +kernel
theorem at119_49 : jm_at 119 49 = some (.ineg) := by decide +kernel
theorem at119_50 : jm_at 119 50 = some (.bipush 48) := by decide +kernel
theorem at119_52 : jm_at 119 52 = some (.invokestatic 35) := by decide +kernel
theorem rv119i_35 : jm_rv 119 (.invokestatic 35) = (1, 57, 0, 0) := by decide +kernel
theorem u119_44 {S : Option (Nat × (Nat → Int32))} {H : jm_H} {Q : Option Value → jm_H → Prop} {r0 r1 : Nat} (h0 : jm_tg H r1 = 3) : jm_w S 3 119 44 [.ref r0, .ref r1, .null, .null, .null, .null, .null, .null, .null] [] H Q = jm_c S 57 [.int (-(jm_I H r1 4)), .int (48 : Int32)] H (fun v G => jm_w S 3 119 55 [.ref r0, .ref r1, .null, .null, .null, .null, .null, .null, .null] (v.toList ++ [.int (0 : Int32)]) G Q) := (jsci at119_44 rfl rfl).trans ((js1 at119_45 rfl rfl rfl).trans ((jsgI (H := H) at119_46 rv119g_32 (Or.inl rfl) h0 rfl).trans ((js0 at119_49 rfl rfl rfl).trans ((jscb at119_50 rfl rfl).trans (jscall (H := H) (as := [.int (-(jm_I H r1 4)), .int (48 : Int32)]) (q := [.int (0 : Int32)]) at119_52 rfl rv119i_35 (jscut rfl rfl rfl (Nat.le_of_ble_eq_true rfl)) rfl (Nat.le_of_ble_eq_true rfl) rfl rfl)))))
theorem at119_55 : jm_at 119 55 = some (.invokestatic 41) := by decide +kernel
theorem rv119i_41 : jm_rv 119 (.invokestatic 41) = (1, 74, 0, 0) := by decide +kernel
theorem u119_55 {S : Option (Nat × (Nat → Int32))} {H : jm_H} {Q : Option Value → jm_H → Prop} {r0 r1 : Nat} {p0 p1 : Int32} : jm_w S 3 119 55 [.ref r0, .ref r1, .null, .null, .null, .null, .null, .null, .null] [.int p1, .int p0] H Q = jm_c S 74 [.int p0, .int p1] H (fun v G => jm_w S 3 119 58 [.ref r0, .ref r1, .null, .null, .null, .null, .null, .null, .null] (v.toList ++ []) G Q) := jscall (H := H) (as := [.int p0, .int p1]) (q := []) at119_55 rfl rv119i_41 (jscut rfl rfl rfl (Nat.le_of_ble_eq_true rfl)) rfl (Nat.le_of_ble_eq_true rfl) rfl rfl
theorem at119_58 : jm_at 119 58 = some (.istore_n 2) := by decide +kernel
theorem at119_59 : jm_at 119 59 = some (.iconst 0) := by decide +kernel
theorem at119_60 : jm_at 119 60 = some (.aload_n 1) := by decide +kernel
theorem at119_61 : jm_at 119 61 = some (.getfield 32) := by decide +kernel
theorem at119_64 : jm_at 119 64 = some (.bipush 48) := by decide +kernel
theorem at119_66 : jm_at 119 66 = some (.invokestatic 35) := by decide +kernel
theorem u119_58 {S : Option (Nat × (Nat → Int32))} {H : jm_H} {Q : Option Value → jm_H → Prop} {r0 r1 : Nat} {p0 : Int32} (h0 : jm_tg H r1 = 3) : jm_w S 3 119 58 [.ref r0, .ref r1, .null, .null, .null, .null, .null, .null, .null] [.int p0] H Q = jm_c S 57 [.int (jm_I H r1 4), .int (48 : Int32)] H (fun v G => jm_w S 3 119 69 [.ref r0, .ref r1, .int p0, .null, .null, .null, .null, .null, .null] (v.toList ++ [.int (0 : Int32)]) G Q) := (js1 at119_58 rfl rfl rfl).trans ((jsci at119_59 rfl rfl).trans ((js1 at119_60 rfl rfl rfl).trans ((jsgI (H := H) at119_61 rv119g_32 (Or.inl rfl) h0 rfl).trans ((jscb at119_64 rfl rfl).trans (jscall (H := H) (as := [.int (jm_I H r1 4), .int (48 : Int32)]) (q := [.int (0 : Int32)]) at119_66 rfl rv119i_35 (jscut rfl rfl rfl (Nat.le_of_ble_eq_true rfl)) rfl (Nat.le_of_ble_eq_true rfl) rfl rfl)))))
theorem at119_69 : jm_at 119 69 = some (.invokestatic 41) := by decide +kernel
theorem u119_69 {S : Option (Nat × (Nat → Int32))} {H : jm_H} {Q : Option Value → jm_H → Prop} {r0 r1 : Nat} {x2 p0 p1 : Int32} : jm_w S 3 119 69 [.ref r0, .ref r1, .int x2, .null, .null, .null, .null, .null, .null] [.int p1, .int p0] H Q = jm_c S 74 [.int p0, .int p1] H (fun v G => jm_w S 3 119 72 [.ref r0, .ref r1, .int x2, .null, .null, .null, .null, .null, .null] (v.toList ++ []) G Q) := jscall (H := H) (as := [.int p0, .int p1]) (q := []) at119_69 rfl rv119i_41 (jscut rfl rfl rfl (Nat.le_of_ble_eq_true rfl)) rfl (Nat.le_of_ble_eq_true rfl) rfl rfl
theorem at119_72 : jm_at 119 72 = some (.istore_n 3) := by decide +kernel
theorem at119_73 : jm_at 119 73 = some (.aload_n 0) := by decide +kernel
theorem at119_74 : jm_at 119 74 = some (.aload_n 1) := by decide +kernel
theorem at119_75 : jm_at 119 75 = some (.getfield 44) := by decide +kernel
theorem rv119g_44 : jm_rv 119 (.getfield 44) = (0, 2, 3, 0) := by decide +kernel
theorem at119_78 : jm_at 119 78 = some (.iload_n 3) := by decide +kernel
theorem at119_79 : jm_at 119 79 = some (.lshl) := by decide +kernel
theorem at119_80 : jm_at 119 80 = some (.iload_n 2) := by decide +kernel
theorem at119_81 : jm_at 119 81 = some (.lshr) := by decide +kernel
theorem at119_82 : jm_at 119 82 = some (.invokevirtual 48) := by decide +kernel
theorem rv119i_48 : jm_rv 119 (.invokevirtual 48) = (2, 121, 0, 0) := by decide +kernel
theorem u119_72 {S : Option (Nat × (Nat → Int32))} {H : jm_H} {Q : Option Value → jm_H → Prop} {r0 r1 : Nat} {x2 p0 : Int32} (h0 : jm_tg H r1 = 3) (h1 : jm_tg H r0 = 1) : jm_w S 3 119 72 [.ref r0, .ref r1, .int x2, .null, .null, .null, .null, .null, .null] [.int p0] H Q = jm_c S 121 [.ref r0, .long (((jm_L H r1 3) <<< (Int32.toInt64 p0 &&& 63)) >>> (Int32.toInt64 x2 &&& 63))] H (fun v G => jm_w S 3 119 85 [.ref r0, .ref r1, .int x2, .int p0, .null, .null, .null, .null, .null] (v.toList ++ []) G Q) := (js1 at119_72 rfl rfl rfl).trans ((js1 at119_73 rfl rfl rfl).trans ((js1 at119_74 rfl rfl rfl).trans ((jsgL (H := H) at119_75 rv119g_44 rfl h0 rfl).trans ((js1 at119_78 rfl rfl rfl).trans ((js0 at119_79 rfl rfl rfl).trans ((js1 at119_80 rfl rfl rfl).trans ((js0 at119_81 rfl rfl rfl).trans (jscall (H := H) (as := [.ref r0, .long (((jm_L H r1 3) <<< (Int32.toInt64 p0 &&& 63)) >>> (Int32.toInt64 x2 &&& 63))]) (q := []) at119_82 rfl rv119i_48 (jscutV rfl rfl rfl (Nat.le_of_ble_eq_true rfl) rfl h1) rfl (Nat.le_of_ble_eq_true rfl) rfl rfl))))))))
theorem at119_85 : jm_at 119 85 = some (.lconst 1) := by decide +kernel
theorem at119_86 : jm_at 119 86 = some (.iload_n 2) := by decide +kernel
theorem at119_87 : jm_at 119 87 = some (.lshl) := by decide +kernel
theorem at119_88 : jm_at 119 88 = some (.lconst 1) := by decide +kernel
theorem at119_89 : jm_at 119 89 = some (.lsub) := by decide +kernel
theorem at119_90 : jm_at 119 90 = some (.lstore 4) := by decide +kernel
theorem at119_92 : jm_at 119 92 = some (.aload_n 1) := by decide +kernel
theorem at119_93 : jm_at 119 93 = some (.getfield 44) := by decide +kernel
theorem at119_96 : jm_at 119 96 = some (.lload 4) := by decide +kernel
theorem at119_98 : jm_at 119 98 = some (.land) := by decide +kernel
theorem at119_99 : jm_at 119 99 = some (.lstore 6) := by decide +kernel
theorem at119_101 : jm_at 119 101 = some (.lload 6) := by decide +kernel
theorem at119_103 : jm_at 119 103 = some (.lconst 0) := by decide +kernel
theorem at119_104 : jm_at 119 104 = some (.lcmp) := by decide +kernel
theorem at119_105 : jm_at 119 105 = some (.ifCond .eq 9) := by decide +kernel
theorem u119_85 {S : Option (Nat × (Nat → Int32))} {H : jm_H} {Q : Option Value → jm_H → Prop} {r0 r1 : Nat} {x2 x3 : Int32} (h0 : jm_tg H r1 = 3) : jm_w S 3 119 85 [.ref r0, .ref r1, .int x2, .int x3, .null, .null, .null, .null, .null] [] H Q = if (lg_cmp ((jm_L H r1 3) &&& (((1 : Int64) <<< (Int32.toInt64 x2 &&& 63)) - (1 : Int64))) (0 : Int64)) = 0 then jm_w S 3 119 114 [.ref r0, .ref r1, .int x2, .int x3, .long (((1 : Int64) <<< (Int32.toInt64 x2 &&& 63)) - (1 : Int64)), .null, .long ((jm_L H r1 3) &&& (((1 : Int64) <<< (Int32.toInt64 x2 &&& 63)) - (1 : Int64))), .null, .null] [] H Q else jm_w S 3 119 108 [.ref r0, .ref r1, .int x2, .int x3, .long (((1 : Int64) <<< (Int32.toInt64 x2 &&& 63)) - (1 : Int64)), .null, .long ((jm_L H r1 3) &&& (((1 : Int64) <<< (Int32.toInt64 x2 &&& 63)) - (1 : Int64))), .null, .null] [] H Q := (jscl at119_85 rfl rfl).trans ((js1 at119_86 rfl rfl rfl).trans ((js0 at119_87 rfl rfl rfl).trans ((jscl at119_88 rfl rfl).trans ((js0 at119_89 rfl rfl rfl).trans ((js1 at119_90 rfl rfl rfl).trans ((js1 at119_92 rfl rfl rfl).trans ((jsgL (H := H) at119_93 rv119g_44 rfl h0 rfl).trans ((js1 at119_96 rfl rfl rfl).trans ((js0 at119_98 rfl rfl rfl).trans ((js1 at119_99 rfl rfl rfl).trans ((js1 at119_101 rfl rfl rfl).trans ((jscl at119_103 rfl rfl).trans ((js0 at119_104 rfl rfl rfl).trans (jsif (P := (lg_cmp ((jm_L H r1 3) &&& (((1 : Int64) <<< (Int32.toInt64 x2 &&& 63)) - (1 : Int64))) (0 : Int64)) = 0) at119_105 rfl rfl))))))))))))))
theorem at119_108 : jm_at 119 108 = some (.aload_n 0) := by decide +kernel
theorem at119_109 : jm_at 119 109 = some (.bipush 46) := by decide +kernel
theorem at119_111 : jm_at 119 111 = some (.invokevirtual 25) := by decide +kernel
theorem u119_108 {S : Option (Nat × (Nat → Int32))} {H : jm_H} {Q : Option Value → jm_H → Prop} {r0 r1 : Nat} {x2 x3 : Int32} {y4 y6 : Int64} (h0 : jm_tg H r0 = 1) : jm_w S 3 119 108 [.ref r0, .ref r1, .int x2, .int x3, .long y4, .null, .long y6, .null, .null] [] H Q = jm_c S 120 [.ref r0, .int (46 : Int32)] H (fun v G => jm_w S 3 119 114 [.ref r0, .ref r1, .int x2, .int x3, .long y4, .null, .long y6, .null, .null] (v.toList ++ []) G Q) := (js1 at119_108 rfl rfl rfl).trans ((jscb at119_109 rfl rfl).trans (jscall (H := H) (as := [.ref r0, .int (46 : Int32)]) (q := []) at119_111 rfl rv119i_25 (jscutV rfl rfl rfl (Nat.le_of_ble_eq_true rfl) rfl h0) rfl (Nat.le_of_ble_eq_true rfl) rfl rfl))
theorem at119_114 : jm_at 119 114 = some (.iconst 0) := by decide +kernel
theorem at119_115 : jm_at 119 115 = some (.istore 8) := by decide +kernel
theorem u119_114 {S : Option (Nat × (Nat → Int32))} {H : jm_H} {Q : Option Value → jm_H → Prop} {r0 r1 : Nat} {x2 x3 : Int32} {y4 y6 : Int64} : jm_w S 3 119 114 [.ref r0, .ref r1, .int x2, .int x3, .long y4, .null, .long y6, .null, .null] [] H Q = jm_w S 3 119 117 [.ref r0, .ref r1, .int x2, .int x3, .long y4, .null, .long y6, .null, .int (0 : Int32)] [] H Q := (jsci at119_114 rfl rfl).trans (js1 at119_115 rfl rfl rfl)
theorem at119_117 : jm_at 119 117 = some (.iload 8) := by decide +kernel
theorem at119_119 : jm_at 119 119 = some (.iload_n 2) := by decide +kernel
theorem at119_120 : jm_at 119 120 = some (.if_icmp .ge 43) := by decide +kernel
theorem u119_117 {S : Option (Nat × (Nat → Int32))} {H : jm_H} {Q : Option Value → jm_H → Prop} {r0 r1 : Nat} {x2 x3 x8 : Int32} {y4 y6 : Int64} : jm_w S 3 119 117 [.ref r0, .ref r1, .int x2, .int x3, .long y4, .null, .long y6, .null, .int x8] [] H Q = if x2 ≤ x8 then jm_w S 3 119 163 [.ref r0, .ref r1, .int x2, .int x3, .long y4, .null, .long y6, .null, .int x8] [] H Q else jm_w S 3 119 123 [.ref r0, .ref r1, .int x2, .int x3, .long y4, .null, .long y6, .null, .int x8] [] H Q := (js1 at119_117 rfl rfl rfl).trans ((js1 at119_119 rfl rfl rfl).trans (jsif (P := x2 ≤ x8) at119_120 rfl rfl))
theorem at119_123 : jm_at 119 123 = some (.lload 6) := by decide +kernel
theorem at119_125 : jm_at 119 125 = some (.lconst 0) := by decide +kernel
theorem at119_126 : jm_at 119 126 = some (.lcmp) := by decide +kernel
theorem at119_127 : jm_at 119 127 = some (.ifCond .eq 36) := by decide +kernel
theorem u119_123 {S : Option (Nat × (Nat → Int32))} {H : jm_H} {Q : Option Value → jm_H → Prop} {r0 r1 : Nat} {x2 x3 x8 : Int32} {y4 y6 : Int64} : jm_w S 3 119 123 [.ref r0, .ref r1, .int x2, .int x3, .long y4, .null, .long y6, .null, .int x8] [] H Q = if (lg_cmp y6 (0 : Int64)) = 0 then jm_w S 3 119 163 [.ref r0, .ref r1, .int x2, .int x3, .long y4, .null, .long y6, .null, .int x8] [] H Q else jm_w S 3 119 130 [.ref r0, .ref r1, .int x2, .int x3, .long y4, .null, .long y6, .null, .int x8] [] H Q := (js1 at119_123 rfl rfl rfl).trans ((jscl at119_125 rfl rfl).trans ((js0 at119_126 rfl rfl rfl).trans (jsif (P := (lg_cmp y6 (0 : Int64)) = 0) at119_127 rfl rfl)))
theorem at119_130 : jm_at 119 130 = some (.lload 6) := by decide +kernel
theorem at119_132 : jm_at 119 132 = some (.ldc2_w 52) := by decide +kernel
theorem rv119l_52 : jm_rv 119 (.ldc2_w 52) = (9, 0, 0, 10) := by decide +kernel
theorem at119_135 : jm_at 119 135 = some (.lmul) := by decide +kernel
theorem at119_136 : jm_at 119 136 = some (.lstore 6) := by decide +kernel
theorem at119_138 : jm_at 119 138 = some (.aload_n 0) := by decide +kernel
theorem at119_139 : jm_at 119 139 = some (.lload 6) := by decide +kernel
theorem at119_141 : jm_at 119 141 = some (.iload_n 2) := by decide +kernel
theorem at119_142 : jm_at 119 142 = some (.lshr) := by decide +kernel
theorem at119_143 : jm_at 119 143 = some (.l2i) := by decide +kernel
theorem at119_144 : jm_at 119 144 = some (.bipush 48) := by decide +kernel
theorem at119_146 : jm_at 119 146 = some (.iadd) := by decide +kernel
theorem at119_147 : jm_at 119 147 = some (.invokevirtual 25) := by decide +kernel
theorem u119_130 {S : Option (Nat × (Nat → Int32))} {H : jm_H} {Q : Option Value → jm_H → Prop} {r0 r1 : Nat} {x2 x3 x8 : Int32} {y4 y6 : Int64} (h0 : jm_tg H r0 = 1) : jm_w S 3 119 130 [.ref r0, .ref r1, .int x2, .int x3, .long y4, .null, .long y6, .null, .int x8] [] H Q = jm_c S 120 [.ref r0, .int ((Int64.toInt32 ((y6 * (10 : Int64)) >>> (Int32.toInt64 x2 &&& 63))) + (48 : Int32))] H (fun v G => jm_w S 3 119 150 [.ref r0, .ref r1, .int x2, .int x3, .long y4, .null, .long (y6 * (10 : Int64)), .null, .int x8] (v.toList ++ []) G Q) := (js1 at119_130 rfl rfl rfl).trans ((jsk2 at119_132 rv119l_52 rfl rfl).trans ((js0 at119_135 rfl rfl rfl).trans ((js1 at119_136 rfl rfl rfl).trans ((js1 at119_138 rfl rfl rfl).trans ((js1 at119_139 rfl rfl rfl).trans ((js1 at119_141 rfl rfl rfl).trans ((js0 at119_142 rfl rfl rfl).trans ((js0 at119_143 rfl rfl rfl).trans ((jscb at119_144 rfl rfl).trans ((js0 at119_146 rfl rfl rfl).trans (jscall (H := H) (as := [.ref r0, .int ((Int64.toInt32 ((y6 * (10 : Int64)) >>> (Int32.toInt64 x2 &&& 63))) + (48 : Int32))]) (q := []) at119_147 rfl rv119i_25 (jscutV rfl rfl rfl (Nat.le_of_ble_eq_true rfl) rfl h0) rfl (Nat.le_of_ble_eq_true rfl) rfl rfl)))))))))))
theorem at119_150 : jm_at 119 150 = some (.lload 6) := by decide +kernel
theorem at119_152 : jm_at 119 152 = some (.lload 4) := by decide +kernel
theorem at119_154 : jm_at 119 154 = some (.land) := by decide +kernel
theorem at119_155 : jm_at 119 155 = some (.lstore 6) := by decide +kernel
theorem at119_157 : jm_at 119 157 = some (.iinc 8 1) := by decide +kernel
theorem at119_160 : jm_at 119 160 = some (.goto (-43)) := by decide +kernel
theorem u119_150 {S : Option (Nat × (Nat → Int32))} {H : jm_H} {Q : Option Value → jm_H → Prop} {r0 r1 : Nat} {x2 x3 x8 : Int32} {y4 y6 : Int64} : jm_w S 3 119 150 [.ref r0, .ref r1, .int x2, .int x3, .long y4, .null, .long y6, .null, .int x8] [] H Q = jm_w S 3 119 117 [.ref r0, .ref r1, .int x2, .int x3, .long y4, .null, .long (y6 &&& y4), .null, .int (x8 + 1)] [] H Q := (js1 at119_150 rfl rfl rfl).trans ((js1 at119_152 rfl rfl rfl).trans ((js0 at119_154 rfl rfl rfl).trans ((js1 at119_155 rfl rfl rfl).trans ((jsinc at119_157 rfl rfl rfl).trans (js2 at119_160 rfl rfl)))))
theorem at119_163 : jm_at 119 163 = some (.return_) := by decide +kernel
theorem u119_163 {S : Option (Nat × (Nat → Int32))} {H : jm_H} {Q : Option Value → jm_H → Prop} {r0 r1 : Nat} {x2 x3 x8 : Int32} {y4 y6 : Int64} : jm_w S 3 119 163 [.ref r0, .ref r1, .int x2, .int x3, .long y4, .null, .long y6, .null, .int x8] [] H Q = Q none H := jsret_v at119_163 rfl
theorem en119 {S : Option (Nat × (Nat → Int32))} {H : jm_H} {Q : Option Value → jm_H → Prop} {r0 r1 : Nat} : jm_c S 119 [.ref r0, .ref r1] H Q = jm_w S 3 119 0 [.ref r0, .ref r1, .null, .null, .null, .null, .null, .null, .null] [] H Q := rfl
theorem at120_0 : jm_at 120 0 = some (.aload_n 0) := by decide +kernel
theorem at120_1 : jm_at 120 1 = some (.getfield 15) := by decide +kernel
theorem rv120g_15 : jm_rv 120 (.getfield 15) = (0, 0, 1, 0) := by decide +kernel
theorem at120_4 : jm_at 120 4 = some (.aload_n 0) := by decide +kernel
theorem at120_5 : jm_at 120 5 = some (.getfield 9) := by decide +kernel
theorem rv120g_9 : jm_rv 120 (.getfield 9) = (0, 0, 0, 0) := by decide +kernel
theorem at120_8 : jm_at 120 8 = some (.arraylength) := by decide +kernel
theorem at120_9 : jm_at 120 9 = some (.if_icmp .ge 24) := by decide +kernel
theorem u120_0 {S : Option (Nat × (Nat → Int32))} {H : jm_H} {Q : Option Value → jm_H → Prop} {r0 : Nat} {x1 : Int32} (h0 : jm_tg H r0 = 1) (h1 : ¬ jm_R H r0 0 = 0) (h2 : ¬ (jm_R H r0 0) = 1) (h3 : 100 ≤ jm_tg H (jm_R H r0 0)) : jm_w S 1 120 0 [.ref r0, .int x1] [] H Q = if (Int32.ofNat (jm_ln H (jm_R H r0 0))) ≤ (jm_I H r0 1) then jm_w S 1 120 33 [.ref r0, .int x1] [] H Q else jm_w S 1 120 12 [.ref r0, .int x1] [] H Q := (js1 at120_0 rfl rfl rfl).trans ((jsgI (H := H) at120_1 rv120g_15 (Or.inl rfl) h0 rfl).trans ((js1 at120_4 rfl rfl rfl).trans ((jsgR (H := H) at120_5 rv120g_9 rfl h0 h1 rfl).trans ((jsaln (H := H) at120_8 h2 h3 rfl).trans (jsif (P := (Int32.ofNat (jm_ln H (jm_R H r0 0))) ≤ (jm_I H r0 1)) at120_9 rfl rfl)))))
theorem at120_12 : jm_at 120 12 = some (.aload_n 0) := by decide +kernel
theorem at120_13 : jm_at 120 13 = some (.getfield 9) := by decide +kernel
theorem at120_16 : jm_at 120 16 = some (.aload_n 0) := by decide +kernel
theorem at120_17 : jm_at 120 17 = some (.getfield 15) := by decide +kernel
theorem at120_20 : jm_at 120 20 = some (.iload_n 1) := by decide +kernel
theorem at120_21 : jm_at 120 21 = some (.i2b) := by decide +kernel
theorem at120_22 : jm_at 120 22 = some (.bastore) := by decide +kernel
theorem at120_23 : jm_at 120 23 = some (.aload_n 0) := by decide +kernel
theorem at120_24 : jm_at 120 24 = some (.dup) := by decide +kernel
theorem at120_25 : jm_at 120 25 = some (.getfield 15) := by decide +kernel
theorem at120_28 : jm_at 120 28 = some (.iconst 1) := by decide +kernel
theorem at120_29 : jm_at 120 29 = some (.iadd) := by decide +kernel
theorem at120_30 : jm_at 120 30 = some (.putfield 15) := by decide +kernel
theorem rv120p_15 : jm_rv 120 (.putfield 15) = (0, 0, 1, 0) := by decide +kernel
theorem u120_12 {S : Option (Nat × (Nat → Int32))} {H : jm_H} {Q : Option Value → jm_H → Prop} {r0 : Nat} {x1 : Int32} (h0 : jm_tg H r0 = 1) (h1 : ¬ jm_R H r0 0 = 0) (h2 : ¬ ((jm_I H r0 1) < 0 ∨ jm_ln H (jm_R H r0 0) ≤ Int32.toNatClampNeg (jm_I H r0 1))) (h3 : jm_tg H (jm_R H r0 0) = 102) : jm_w S 1 120 12 [.ref r0, .int x1] [] H Q = jm_w S 1 120 33 [.ref r0, .int x1] [] (jm_pI (jm_pI H (jm_R H r0 0) (Int32.toNatClampNeg (jm_I H r0 1)) (Int8.toInt32 (Int32.toInt8 (Int8.toInt32 (Int32.toInt8 x1))))) r0 1 ((jm_I (jm_pI H (jm_R H r0 0) (Int32.toNatClampNeg (jm_I H r0 1)) (Int8.toInt32 (Int32.toInt8 (Int8.toInt32 (Int32.toInt8 x1))))) r0 1) + (1 : Int32))) Q := (js1 at120_12 rfl rfl rfl).trans ((jsgR (H := H) at120_13 rv120g_9 rfl h0 h1 rfl).trans ((js1 at120_16 rfl rfl rfl).trans ((jsgI (H := H) at120_17 rv120g_15 (Or.inl rfl) h0 rfl).trans ((js1 at120_20 rfl rfl rfl).trans ((js0 at120_21 rfl rfl rfl).trans ((jsbas (H := H) at120_22 h3 h2 rfl).trans ((js1 at120_23 rfl rfl rfl).trans ((js0 at120_24 rfl rfl rfl).trans ((jsgI (H := (jm_pI H (jm_R H r0 0) (Int32.toNatClampNeg (jm_I H r0 1)) (Int8.toInt32 (Int32.toInt8 (Int8.toInt32 (Int32.toInt8 x1)))))) at120_25 rv120g_15 (Or.inl rfl) h0 rfl).trans ((jsci at120_28 rfl rfl).trans ((js0 at120_29 rfl rfl rfl).trans (jspI (H := (jm_pI H (jm_R H r0 0) (Int32.toNatClampNeg (jm_I H r0 1)) (Int8.toInt32 (Int32.toInt8 (Int8.toInt32 (Int32.toInt8 x1)))))) at120_30 rv120p_15 rfl h0 rfl))))))))))))
theorem at120_33 : jm_at 120 33 = some (.return_) := by decide +kernel
theorem u120_33 {S : Option (Nat × (Nat → Int32))} {H : jm_H} {Q : Option Value → jm_H → Prop} {r0 : Nat} {x1 : Int32} : jm_w S 1 120 33 [.ref r0, .int x1] [] H Q = Q none H := jsret_v at120_33 rfl
theorem en120 {S : Option (Nat × (Nat → Int32))} {H : jm_H} {Q : Option Value → jm_H → Prop} {r0 : Nat} {x1 : Int32} : jm_c S 120 [.ref r0, .int x1] H Q = jm_w S 1 120 0 [.ref r0, .int x1] [] H Q := rfl
theorem at121_0 : jm_at 121 0 = some (.lconst 1) := by decide +kernel
theorem at121_1 : jm_at 121 1 = some (.lstore_n 3) := by decide +kernel
theorem at121_2 : jm_at 121 2 = some (.iconst 0) := by decide +kernel
theorem at121_3 : jm_at 121 3 = some (.istore 5) := by decide +kernel
theorem u121_0 {S : Option (Nat × (Nat → Int32))} {H : jm_H} {Q : Option Value → jm_H → Prop} {r0 : Nat} {y1 : Int64} : jm_w S 2 121 0 [.ref r0, .long y1, .null, .null, .null, .null] [] H Q = jm_w S 2 121 5 [.ref r0, .long y1, .null, .long (1 : Int64), .null, .int (0 : Int32)] [] H Q := (jscl at121_0 rfl rfl).trans ((js1 at121_1 rfl rfl rfl).trans ((jsci at121_2 rfl rfl).trans (js1 at121_3 rfl rfl rfl)))
theorem at121_5 : jm_at 121 5 = some (.iload 5) := by decide +kernel
theorem at121_7 : jm_at 121 7 = some (.bipush 17) := by decide +kernel
theorem at121_9 : jm_at 121 9 = some (.if_icmp .ge 25) := by decide +kernel
theorem u121_5 {S : Option (Nat × (Nat → Int32))} {H : jm_H} {Q : Option Value → jm_H → Prop} {r0 : Nat} {y1 y3 : Int64} {x5 : Int32} : jm_w S 2 121 5 [.ref r0, .long y1, .null, .long y3, .null, .int x5] [] H Q = if (17 : Int32) ≤ x5 then jm_w S 2 121 34 [.ref r0, .long y1, .null, .long y3, .null, .int x5] [] H Q else jm_w S 2 121 12 [.ref r0, .long y1, .null, .long y3, .null, .int x5] [] H Q := (js1 at121_5 rfl rfl rfl).trans ((jscb at121_7 rfl rfl).trans (jsif (P := (17 : Int32) ≤ x5) at121_9 rfl rfl))
theorem at121_12 : jm_at 121 12 = some (.lload_n 3) := by decide +kernel
theorem at121_13 : jm_at 121 13 = some (.ldc2_w 52) := by decide +kernel
theorem rv121l_52 : jm_rv 121 (.ldc2_w 52) = (9, 0, 0, 10) := by decide +kernel
theorem at121_16 : jm_at 121 16 = some (.lmul) := by decide +kernel
theorem at121_17 : jm_at 121 17 = some (.lload_n 1) := by decide +kernel
theorem at121_18 : jm_at 121 18 = some (.lcmp) := by decide +kernel
theorem at121_19 : jm_at 121 19 = some (.ifCond .gt 15) := by decide +kernel
theorem u121_12 {S : Option (Nat × (Nat → Int32))} {H : jm_H} {Q : Option Value → jm_H → Prop} {r0 : Nat} {y1 y3 : Int64} {x5 : Int32} : jm_w S 2 121 12 [.ref r0, .long y1, .null, .long y3, .null, .int x5] [] H Q = if 0 < (lg_cmp (y3 * (10 : Int64)) y1) then jm_w S 2 121 34 [.ref r0, .long y1, .null, .long y3, .null, .int x5] [] H Q else jm_w S 2 121 22 [.ref r0, .long y1, .null, .long y3, .null, .int x5] [] H Q := (js1 at121_12 rfl rfl rfl).trans ((jsk2 at121_13 rv121l_52 rfl rfl).trans ((js0 at121_16 rfl rfl rfl).trans ((js1 at121_17 rfl rfl rfl).trans ((js0 at121_18 rfl rfl rfl).trans (jsif (P := 0 < (lg_cmp (y3 * (10 : Int64)) y1)) at121_19 rfl rfl)))))
theorem at121_22 : jm_at 121 22 = some (.lload_n 3) := by decide +kernel
theorem at121_23 : jm_at 121 23 = some (.ldc2_w 52) := by decide +kernel
theorem at121_26 : jm_at 121 26 = some (.lmul) := by decide +kernel
theorem at121_27 : jm_at 121 27 = some (.lstore_n 3) := by decide +kernel
theorem at121_28 : jm_at 121 28 = some (.iinc 5 1) := by decide +kernel
theorem at121_31 : jm_at 121 31 = some (.goto (-26)) := by decide +kernel
theorem u121_22 {S : Option (Nat × (Nat → Int32))} {H : jm_H} {Q : Option Value → jm_H → Prop} {r0 : Nat} {y1 y3 : Int64} {x5 : Int32} : jm_w S 2 121 22 [.ref r0, .long y1, .null, .long y3, .null, .int x5] [] H Q = jm_w S 2 121 5 [.ref r0, .long y1, .null, .long (y3 * (10 : Int64)), .null, .int (x5 + 1)] [] H Q := (js1 at121_22 rfl rfl rfl).trans ((jsk2 at121_23 rv121l_52 rfl rfl).trans ((js0 at121_26 rfl rfl rfl).trans ((js1 at121_27 rfl rfl rfl).trans ((jsinc at121_28 rfl rfl rfl).trans (js2 at121_31 rfl rfl)))))
theorem at121_34 : jm_at 121 34 = some (.lload_n 3) := by decide +kernel
theorem at121_35 : jm_at 121 35 = some (.lconst 0) := by decide +kernel
theorem at121_36 : jm_at 121 36 = some (.lcmp) := by decide +kernel
theorem at121_37 : jm_at 121 37 = some (.ifCond .le 27) := by decide +kernel
theorem u121_34 {S : Option (Nat × (Nat → Int32))} {H : jm_H} {Q : Option Value → jm_H → Prop} {r0 : Nat} {y1 y3 : Int64} {x5 : Int32} : jm_w S 2 121 34 [.ref r0, .long y1, .null, .long y3, .null, .int x5] [] H Q = if (lg_cmp y3 (0 : Int64)) ≤ 0 then jm_w S 2 121 64 [.ref r0, .long y1, .null, .long y3, .null, .int x5] [] H Q else jm_w S 2 121 40 [.ref r0, .long y1, .null, .long y3, .null, .int x5] [] H Q := (js1 at121_34 rfl rfl rfl).trans ((jscl at121_35 rfl rfl).trans ((js0 at121_36 rfl rfl rfl).trans (jsif (P := (lg_cmp y3 (0 : Int64)) ≤ 0) at121_37 rfl rfl)))
theorem at121_40 : jm_at 121 40 = some (.aload_n 0) := by decide +kernel
theorem at121_41 : jm_at 121 41 = some (.lload_n 1) := by decide +kernel
theorem at121_42 : jm_at 121 42 = some (.lload_n 3) := by decide +kernel
theorem at121_43 : jm_at 121 43 = some (.ldiv) := by decide +kernel
theorem at121_44 : jm_at 121 44 = some (.ldc2_w 52) := by decide +kernel
theorem at121_47 : jm_at 121 47 = some (.lrem) := by decide +kernel
theorem at121_48 : jm_at 121 48 = some (.l2i) := by decide +kernel
theorem at121_49 : jm_at 121 49 = some (.bipush 48) := by decide +kernel
theorem at121_51 : jm_at 121 51 = some (.iadd) := by decide +kernel
theorem at121_52 : jm_at 121 52 = some (.invokevirtual 25) := by decide +kernel
theorem rv121i_25 : jm_rv 121 (.invokevirtual 25) = (2, 120, 0, 0) := by decide +kernel
theorem u121_40 {S : Option (Nat × (Nat → Int32))} {H : jm_H} {Q : Option Value → jm_H → Prop} {r0 : Nat} {y1 y3 : Int64} {x5 : Int32} (h0 : ¬ y3 = 0) (h1 : jm_tg H r0 = 1) : jm_w S 2 121 40 [.ref r0, .long y1, .null, .long y3, .null, .int x5] [] H Q = jm_c S 120 [.ref r0, .int ((Int64.toInt32 ((y1 / y3) - (y1 / y3) / (10 : Int64) * (10 : Int64))) + (48 : Int32))] H (fun v G => jm_w S 2 121 55 [.ref r0, .long y1, .null, .long y3, .null, .int x5] (v.toList ++ []) G Q) := (js1 at121_40 rfl rfl rfl).trans ((js1 at121_41 rfl rfl rfl).trans ((js1 at121_42 rfl rfl rfl).trans ((jsldiv at121_43 h0 rfl).trans ((jsk2 at121_44 rv121l_52 rfl rfl).trans ((jslrem at121_47 (by decide) rfl).trans ((js0 at121_48 rfl rfl rfl).trans ((jscb at121_49 rfl rfl).trans ((js0 at121_51 rfl rfl rfl).trans (jscall (H := H) (as := [.ref r0, .int ((Int64.toInt32 ((y1 / y3) - (y1 / y3) / (10 : Int64) * (10 : Int64))) + (48 : Int32))]) (q := []) at121_52 rfl rv121i_25 (jscutV rfl rfl rfl (Nat.le_of_ble_eq_true rfl) rfl h1) rfl (Nat.le_of_ble_eq_true rfl) rfl rfl)))))))))
theorem at121_55 : jm_at 121 55 = some (.lload_n 3) := by decide +kernel
theorem at121_56 : jm_at 121 56 = some (.ldc2_w 52) := by decide +kernel
theorem at121_59 : jm_at 121 59 = some (.ldiv) := by decide +kernel
theorem at121_60 : jm_at 121 60 = some (.lstore_n 3) := by decide +kernel
theorem at121_61 : jm_at 121 61 = some (.goto (-27)) := by decide +kernel
theorem u121_55 {S : Option (Nat × (Nat → Int32))} {H : jm_H} {Q : Option Value → jm_H → Prop} {r0 : Nat} {y1 y3 : Int64} {x5 : Int32} : jm_w S 2 121 55 [.ref r0, .long y1, .null, .long y3, .null, .int x5] [] H Q = jm_w S 2 121 34 [.ref r0, .long y1, .null, .long (y3 / (10 : Int64)), .null, .int x5] [] H Q := (js1 at121_55 rfl rfl rfl).trans ((jsk2 at121_56 rv121l_52 rfl rfl).trans ((jsldiv at121_59 (by decide) rfl).trans ((js1 at121_60 rfl rfl rfl).trans (js2 at121_61 rfl rfl))))
theorem at121_64 : jm_at 121 64 = some (.return_) := by decide +kernel
theorem u121_64 {S : Option (Nat × (Nat → Int32))} {H : jm_H} {Q : Option Value → jm_H → Prop} {r0 : Nat} {y1 y3 : Int64} {x5 : Int32} : jm_w S 2 121 64 [.ref r0, .long y1, .null, .long y3, .null, .int x5] [] H Q = Q none H := jsret_v at121_64 rfl
theorem en121 {S : Option (Nat × (Nat → Int32))} {H : jm_H} {Q : Option Value → jm_H → Prop} {r0 : Nat} {y1 : Int64} : jm_c S 121 [.ref r0, .long y1] H Q = jm_w S 2 121 0 [.ref r0, .long y1, .null, .null, .null, .null] [] H Q := rfl
theorem at122_0 : jm_at 122 0 = some (.iload_n 1) := by decide +kernel
theorem at122_1 : jm_at 122 1 = some (.ifCond .lt 20) := by decide +kernel
theorem u122_0 {S : Option (Nat × (Nat → Int32))} {H : jm_H} {Q : Option Value → jm_H → Prop} {r0 : Nat} {x1 : Int32} : jm_w S 1 122 0 [.ref r0, .int x1] [] H Q = if x1 < 0 then jm_w S 1 122 21 [.ref r0, .int x1] [] H Q else jm_w S 1 122 4 [.ref r0, .int x1] [] H Q := (js1 at122_0 rfl rfl rfl).trans (jsif (P := x1 < 0) at122_1 rfl rfl)
theorem at122_4 : jm_at 122 4 = some (.iload_n 1) := by decide +kernel
theorem at122_5 : jm_at 122 5 = some (.aload_n 0) := by decide +kernel
theorem at122_6 : jm_at 122 6 = some (.getfield 15) := by decide +kernel
theorem rv122g_15 : jm_rv 122 (.getfield 15) = (0, 0, 1, 0) := by decide +kernel
theorem at122_9 : jm_at 122 9 = some (.if_icmp .ge 12) := by decide +kernel
theorem u122_4 {S : Option (Nat × (Nat → Int32))} {H : jm_H} {Q : Option Value → jm_H → Prop} {r0 : Nat} {x1 : Int32} (h0 : jm_tg H r0 = 1) : jm_w S 1 122 4 [.ref r0, .int x1] [] H Q = if (jm_I H r0 1) ≤ x1 then jm_w S 1 122 21 [.ref r0, .int x1] [] H Q else jm_w S 1 122 12 [.ref r0, .int x1] [] H Q := (js1 at122_4 rfl rfl rfl).trans ((js1 at122_5 rfl rfl rfl).trans ((jsgI (H := H) at122_6 rv122g_15 (Or.inl rfl) h0 rfl).trans (jsif (P := (jm_I H r0 1) ≤ x1) at122_9 rfl rfl)))
theorem at122_12 : jm_at 122 12 = some (.iload_n 1) := by decide +kernel
theorem at122_13 : jm_at 122 13 = some (.aload_n 0) := by decide +kernel
theorem at122_14 : jm_at 122 14 = some (.getfield 9) := by decide +kernel
theorem rv122g_9 : jm_rv 122 (.getfield 9) = (0, 0, 0, 0) := by decide +kernel
theorem at122_17 : jm_at 122 17 = some (.arraylength) := by decide +kernel
theorem at122_18 : jm_at 122 18 = some (.if_icmp .lt 7) := by decide +kernel
theorem u122_12 {S : Option (Nat × (Nat → Int32))} {H : jm_H} {Q : Option Value → jm_H → Prop} {r0 : Nat} {x1 : Int32} (h0 : jm_tg H r0 = 1) (h1 : ¬ jm_R H r0 0 = 0) (h2 : ¬ (jm_R H r0 0) = 1) (h3 : 100 ≤ jm_tg H (jm_R H r0 0)) : jm_w S 1 122 12 [.ref r0, .int x1] [] H Q = if x1 < (Int32.ofNat (jm_ln H (jm_R H r0 0))) then jm_w S 1 122 25 [.ref r0, .int x1] [] H Q else jm_w S 1 122 21 [.ref r0, .int x1] [] H Q := (js1 at122_12 rfl rfl rfl).trans ((js1 at122_13 rfl rfl rfl).trans ((jsgR (H := H) at122_14 rv122g_9 rfl h0 h1 rfl).trans ((jsaln (H := H) at122_17 h2 h3 rfl).trans (jsif (P := x1 < (Int32.ofNat (jm_ln H (jm_R H r0 0)))) at122_18 rfl rfl))))
theorem at122_21 : jm_at 122 21 = some (.iconst (-1)) := by decide +kernel
theorem at122_22 : jm_at 122 22 = some (.goto 9) := by decide +kernel
theorem u122_21 {S : Option (Nat × (Nat → Int32))} {H : jm_H} {Q : Option Value → jm_H → Prop} {r0 : Nat} {x1 : Int32} : jm_w S 1 122 21 [.ref r0, .int x1] [] H Q = jm_w S 1 122 31 [.ref r0, .int x1] [.int (-1 : Int32)] H Q := (jsci at122_21 rfl rfl).trans (js2 at122_22 rfl rfl)
theorem at122_25 : jm_at 122 25 = some (.aload_n 0) := by decide +kernel
theorem at122_26 : jm_at 122 26 = some (.getfield 9) := by decide +kernel
theorem at122_29 : jm_at 122 29 = some (.iload_n 1) := by decide +kernel
theorem at122_30 : jm_at 122 30 = some (.baload) := by decide +kernel
theorem u122_25 {S : Option (Nat × (Nat → Int32))} {H : jm_H} {Q : Option Value → jm_H → Prop} {r0 : Nat} {x1 : Int32} (h0 : jm_tg H r0 = 1) (h1 : ¬ jm_R H r0 0 = 0) (h2 : ¬ (x1 < 0 ∨ jm_ln H (jm_R H r0 0) ≤ Int32.toNatClampNeg x1)) (h3 : jm_tg H (jm_R H r0 0) = 102 ∨ jm_tg H (jm_R H r0 0) = 103) : jm_w S 1 122 25 [.ref r0, .int x1] [] H Q = jm_w S 1 122 31 [.ref r0, .int x1] [.int (jm_I H (jm_R H r0 0) (Int32.toNatClampNeg x1))] H Q := (js1 at122_25 rfl rfl rfl).trans ((jsgR (H := H) at122_26 rv122g_9 rfl h0 h1 rfl).trans ((js1 at122_29 rfl rfl rfl).trans (jsbal (H := H) at122_30 h3 h2 rfl)))
theorem at122_31 : jm_at 122 31 = some (.ireturn) := by decide +kernel
theorem u122_31 {S : Option (Nat × (Nat → Int32))} {H : jm_H} {Q : Option Value → jm_H → Prop} {r0 : Nat} {x1 p0 : Int32} : jm_w S 1 122 31 [.ref r0, .int x1] [.int p0] H Q = Q (some (.int p0)) H := jsret_i at122_31 rfl
theorem en122 {S : Option (Nat × (Nat → Int32))} {H : jm_H} {Q : Option Value → jm_H → Prop} {r0 : Nat} {x1 : Int32} : jm_c S 122 [.ref r0, .int x1] H Q = jm_w S 1 122 0 [.ref r0, .int x1] [] H Q := rfl
