theorem at46_0 : jm_at 46 0 = some (.iload_n 0) := by decide +kernel
theorem at46_1 : jm_at 46 1 = some (.bipush 31) := by decide +kernel
theorem at46_3 : jm_at 46 3 = some (.ishr) := by decide +kernel
theorem at46_4 : jm_at 46 4 = some (.iload_n 0) := by decide +kernel
theorem at46_5 : jm_at 46 5 = some (.ineg) := by decide +kernel
theorem at46_6 : jm_at 46 6 = some (.bipush 31) := by decide +kernel
theorem at46_8 : jm_at 46 8 = some (.iushr) := by decide +kernel
theorem at46_9 : jm_at 46 9 = some (.ior) := by decide +kernel
theorem at46_10 : jm_at 46 10 = some (.ireturn) := by decide +kernel
theorem u46_0 {S : Option (Nat × (Nat → Int32))} {H : jm_H} {Q : Option Value → jm_H → Prop} {x0 : Int32} : jm_w S 1 46 0 [.int x0] [] H Q = Q (some (.int ((x0 >>> ((31 : Int32) &&& 31)) ||| ((Int32.toUInt32 (-x0) >>> (Int32.toUInt32 (31 : Int32) &&& Int32.toUInt32 31)).toInt32)))) H := (js1 at46_0 rfl rfl rfl).trans ((jscb at46_1 rfl rfl).trans ((js0 at46_3 rfl rfl rfl).trans ((js1 at46_4 rfl rfl rfl).trans ((js0 at46_5 rfl rfl rfl).trans ((jscb at46_6 rfl rfl).trans ((js0 at46_8 rfl rfl rfl).trans ((js0 at46_9 rfl rfl rfl).trans (jsret_i at46_10 rfl))))))))
theorem en46 {S : Option (Nat × (Nat → Int32))} {H : jm_H} {Q : Option Value → jm_H → Prop} {x0 : Int32} : jm_c S 46 [.int x0] H Q = jm_w S 1 46 0 [.int x0] [] H Q := rfl
theorem at55_0 : jm_at 55 0 = some (.iload_n 0) := by decide +kernel
theorem at55_1 : jm_at 55 1 = some (.ifCond .gt 14) := by decide +kernel
theorem u55_0 {S : Option (Nat × (Nat → Int32))} {H : jm_H} {Q : Option Value → jm_H → Prop} {x0 : Int32} : jm_w S 1 55 0 [.int x0, .null] [] H Q = if 0 < x0 then jm_w S 1 55 15 [.int x0, .null] [] H Q else jm_w S 1 55 4 [.int x0, .null] [] H Q := (js1 at55_0 rfl rfl rfl).trans (jsif (P := 0 < x0) at55_1 rfl rfl)
theorem at55_4 : jm_at 55 4 = some (.iload_n 0) := by decide +kernel
theorem at55_5 : jm_at 55 5 = some (.ifCond .ne 8) := by decide +kernel
theorem u55_4 {S : Option (Nat × (Nat → Int32))} {H : jm_H} {Q : Option Value → jm_H → Prop} {x0 : Int32} : jm_w S 1 55 4 [.int x0, .null] [] H Q = if ¬ x0 = 0 then jm_w S 1 55 13 [.int x0, .null] [] H Q else jm_w S 1 55 8 [.int x0, .null] [] H Q := (js1 at55_4 rfl rfl rfl).trans (jsif (P := ¬ x0 = 0) at55_5 rfl rfl)
theorem at55_8 : jm_at 55 8 = some (.bipush 32) := by decide +kernel
theorem at55_10 : jm_at 55 10 = some (.goto 4) := by decide +kernel
theorem u55_8 {S : Option (Nat × (Nat → Int32))} {H : jm_H} {Q : Option Value → jm_H → Prop} {x0 : Int32} : jm_w S 1 55 8 [.int x0, .null] [] H Q = jm_w S 1 55 14 [.int x0, .null] [.int (32 : Int32)] H Q := (jscb at55_8 rfl rfl).trans (js2 at55_10 rfl rfl)
theorem at55_13 : jm_at 55 13 = some (.iconst 0) := by decide +kernel
theorem u55_13 {S : Option (Nat × (Nat → Int32))} {H : jm_H} {Q : Option Value → jm_H → Prop} {x0 : Int32} : jm_w S 1 55 13 [.int x0, .null] [] H Q = jm_w S 1 55 14 [.int x0, .null] [.int (0 : Int32)] H Q := jsci at55_13 rfl rfl
theorem at55_14 : jm_at 55 14 = some (.ireturn) := by decide +kernel
theorem u55_14 {S : Option (Nat × (Nat → Int32))} {H : jm_H} {Q : Option Value → jm_H → Prop} {x0 p0 : Int32} : jm_w S 1 55 14 [.int x0, .null] [.int p0] H Q = Q (some (.int p0)) H := jsret_i at55_14 rfl
theorem at55_15 : jm_at 55 15 = some (.bipush 31) := by decide +kernel
theorem at55_17 : jm_at 55 17 = some (.istore_n 1) := by decide +kernel
theorem at55_18 : jm_at 55 18 = some (.iload_n 0) := by decide +kernel
theorem at55_19 : jm_at 55 19 = some (.ldc_w 264) := by decide +kernel
theorem rv55l_264 : jm_rv 55 (.ldc_w 264) = (8, 0, 0, 65536) := by decide +kernel
theorem at55_22 : jm_at 55 22 = some (.if_icmp .lt 11) := by decide +kernel
theorem u55_15 {S : Option (Nat × (Nat → Int32))} {H : jm_H} {Q : Option Value → jm_H → Prop} {x0 : Int32} : jm_w S 1 55 15 [.int x0, .null] [] H Q = if x0 < (65536 : Int32) then jm_w S 1 55 33 [.int x0, .int (31 : Int32)] [] H Q else jm_w S 1 55 25 [.int x0, .int (31 : Int32)] [] H Q := (jscb at55_15 rfl rfl).trans ((js1 at55_17 rfl rfl rfl).trans ((js1 at55_18 rfl rfl rfl).trans ((jskw at55_19 rv55l_264 rfl rfl).trans (jsif (P := x0 < (65536 : Int32)) at55_22 rfl rfl))))
theorem at55_25 : jm_at 55 25 = some (.iinc 1 (-16)) := by decide +kernel
theorem at55_28 : jm_at 55 28 = some (.iload_n 0) := by decide +kernel
theorem at55_29 : jm_at 55 29 = some (.bipush 16) := by decide +kernel
theorem at55_31 : jm_at 55 31 = some (.iushr) := by decide +kernel
theorem at55_32 : jm_at 55 32 = some (.istore_n 0) := by decide +kernel
theorem u55_25 {S : Option (Nat × (Nat → Int32))} {H : jm_H} {Q : Option Value → jm_H → Prop} {x0 x1 : Int32} : jm_w S 1 55 25 [.int x0, .int x1] [] H Q = jm_w S 1 55 33 [.int ((Int32.toUInt32 x0 >>> (Int32.toUInt32 (16 : Int32) &&& Int32.toUInt32 31)).toInt32), .int (x1 + (-16))] [] H Q := (jsinc at55_25 rfl rfl rfl).trans ((js1 at55_28 rfl rfl rfl).trans ((jscb at55_29 rfl rfl).trans ((js0 at55_31 rfl rfl rfl).trans (js1 at55_32 rfl rfl rfl))))
theorem at55_33 : jm_at 55 33 = some (.iload_n 0) := by decide +kernel
theorem at55_34 : jm_at 55 34 = some (.sipush 256) := by decide +kernel
theorem at55_37 : jm_at 55 37 = some (.if_icmp .lt 11) := by decide +kernel
theorem u55_33 {S : Option (Nat × (Nat → Int32))} {H : jm_H} {Q : Option Value → jm_H → Prop} {x0 x1 : Int32} : jm_w S 1 55 33 [.int x0, .int x1] [] H Q = if x0 < (256 : Int32) then jm_w S 1 55 48 [.int x0, .int x1] [] H Q else jm_w S 1 55 40 [.int x0, .int x1] [] H Q := (js1 at55_33 rfl rfl rfl).trans ((jscs at55_34 rfl rfl).trans (jsif (P := x0 < (256 : Int32)) at55_37 rfl rfl))
theorem at55_40 : jm_at 55 40 = some (.iinc 1 (-8)) := by decide +kernel
theorem at55_43 : jm_at 55 43 = some (.iload_n 0) := by decide +kernel
theorem at55_44 : jm_at 55 44 = some (.bipush 8) := by decide +kernel
theorem at55_46 : jm_at 55 46 = some (.iushr) := by decide +kernel
theorem at55_47 : jm_at 55 47 = some (.istore_n 0) := by decide +kernel
theorem u55_40 {S : Option (Nat × (Nat → Int32))} {H : jm_H} {Q : Option Value → jm_H → Prop} {x0 x1 : Int32} : jm_w S 1 55 40 [.int x0, .int x1] [] H Q = jm_w S 1 55 48 [.int ((Int32.toUInt32 x0 >>> (Int32.toUInt32 (8 : Int32) &&& Int32.toUInt32 31)).toInt32), .int (x1 + (-8))] [] H Q := (jsinc at55_40 rfl rfl rfl).trans ((js1 at55_43 rfl rfl rfl).trans ((jscb at55_44 rfl rfl).trans ((js0 at55_46 rfl rfl rfl).trans (js1 at55_47 rfl rfl rfl))))
theorem at55_48 : jm_at 55 48 = some (.iload_n 0) := by decide +kernel
theorem at55_49 : jm_at 55 49 = some (.bipush 16) := by decide +kernel
theorem at55_51 : jm_at 55 51 = some (.if_icmp .lt 10) := by decide +kernel
theorem u55_48 {S : Option (Nat × (Nat → Int32))} {H : jm_H} {Q : Option Value → jm_H → Prop} {x0 x1 : Int32} : jm_w S 1 55 48 [.int x0, .int x1] [] H Q = if x0 < (16 : Int32) then jm_w S 1 55 61 [.int x0, .int x1] [] H Q else jm_w S 1 55 54 [.int x0, .int x1] [] H Q := (js1 at55_48 rfl rfl rfl).trans ((jscb at55_49 rfl rfl).trans (jsif (P := x0 < (16 : Int32)) at55_51 rfl rfl))
theorem at55_54 : jm_at 55 54 = some (.iinc 1 (-4)) := by decide +kernel
theorem at55_57 : jm_at 55 57 = some (.iload_n 0) := by decide +kernel
theorem at55_58 : jm_at 55 58 = some (.iconst 4) := by decide +kernel
theorem at55_59 : jm_at 55 59 = some (.iushr) := by decide +kernel
theorem at55_60 : jm_at 55 60 = some (.istore_n 0) := by decide +kernel
theorem u55_54 {S : Option (Nat × (Nat → Int32))} {H : jm_H} {Q : Option Value → jm_H → Prop} {x0 x1 : Int32} : jm_w S 1 55 54 [.int x0, .int x1] [] H Q = jm_w S 1 55 61 [.int ((Int32.toUInt32 x0 >>> (Int32.toUInt32 (4 : Int32) &&& Int32.toUInt32 31)).toInt32), .int (x1 + (-4))] [] H Q := (jsinc at55_54 rfl rfl rfl).trans ((js1 at55_57 rfl rfl rfl).trans ((jsci at55_58 rfl rfl).trans ((js0 at55_59 rfl rfl rfl).trans (js1 at55_60 rfl rfl rfl))))
theorem at55_61 : jm_at 55 61 = some (.iload_n 0) := by decide +kernel
theorem at55_62 : jm_at 55 62 = some (.iconst 4) := by decide +kernel
theorem at55_63 : jm_at 55 63 = some (.if_icmp .lt 10) := by decide +kernel
theorem u55_61 {S : Option (Nat × (Nat → Int32))} {H : jm_H} {Q : Option Value → jm_H → Prop} {x0 x1 : Int32} : jm_w S 1 55 61 [.int x0, .int x1] [] H Q = if x0 < (4 : Int32) then jm_w S 1 55 73 [.int x0, .int x1] [] H Q else jm_w S 1 55 66 [.int x0, .int x1] [] H Q := (js1 at55_61 rfl rfl rfl).trans ((jsci at55_62 rfl rfl).trans (jsif (P := x0 < (4 : Int32)) at55_63 rfl rfl))
theorem at55_66 : jm_at 55 66 = some (.iinc 1 (-2)) := by decide +kernel
theorem at55_69 : jm_at 55 69 = some (.iload_n 0) := by decide +kernel
theorem at55_70 : jm_at 55 70 = some (.iconst 2) := by decide +kernel
theorem at55_71 : jm_at 55 71 = some (.iushr) := by decide +kernel
theorem at55_72 : jm_at 55 72 = some (.istore_n 0) := by decide +kernel
theorem u55_66 {S : Option (Nat × (Nat → Int32))} {H : jm_H} {Q : Option Value → jm_H → Prop} {x0 x1 : Int32} : jm_w S 1 55 66 [.int x0, .int x1] [] H Q = jm_w S 1 55 73 [.int ((Int32.toUInt32 x0 >>> (Int32.toUInt32 (2 : Int32) &&& Int32.toUInt32 31)).toInt32), .int (x1 + (-2))] [] H Q := (jsinc at55_66 rfl rfl rfl).trans ((js1 at55_69 rfl rfl rfl).trans ((jsci at55_70 rfl rfl).trans ((js0 at55_71 rfl rfl rfl).trans (js1 at55_72 rfl rfl rfl))))
theorem at55_73 : jm_at 55 73 = some (.iload_n 1) := by decide +kernel
theorem at55_74 : jm_at 55 74 = some (.iload_n 0) := by decide +kernel
theorem at55_75 : jm_at 55 75 = some (.iconst 1) := by decide +kernel
theorem at55_76 : jm_at 55 76 = some (.iushr) := by decide +kernel
theorem at55_77 : jm_at 55 77 = some (.isub) := by decide +kernel
theorem at55_78 : jm_at 55 78 = some (.ireturn) := by decide +kernel
theorem u55_73 {S : Option (Nat × (Nat → Int32))} {H : jm_H} {Q : Option Value → jm_H → Prop} {x0 x1 : Int32} : jm_w S 1 55 73 [.int x0, .int x1] [] H Q = Q (some (.int (x1 - ((Int32.toUInt32 x0 >>> (Int32.toUInt32 (1 : Int32) &&& Int32.toUInt32 31)).toInt32)))) H := (js1 at55_73 rfl rfl rfl).trans ((js1 at55_74 rfl rfl rfl).trans ((jsci at55_75 rfl rfl).trans ((js0 at55_76 rfl rfl rfl).trans ((js0 at55_77 rfl rfl rfl).trans (jsret_i at55_78 rfl)))))
theorem en55 {S : Option (Nat × (Nat → Int32))} {H : jm_H} {Q : Option Value → jm_H → Prop} {x0 : Int32} : jm_c S 55 [.int x0] H Q = jm_w S 1 55 0 [.int x0, .null] [] H Q := rfl
theorem at76_0 : jm_at 76 0 = some (.iload_n 0) := by decide +kernel
theorem at76_1 : jm_at 76 1 = some (.iconst (-1)) := by decide +kernel
theorem at76_2 : jm_at 76 2 = some (.ixor) := by decide +kernel
theorem at76_3 : jm_at 76 3 = some (.iload_n 0) := by decide +kernel
theorem at76_4 : jm_at 76 4 = some (.iconst 1) := by decide +kernel
theorem at76_5 : jm_at 76 5 = some (.isub) := by decide +kernel
theorem at76_6 : jm_at 76 6 = some (.iand) := by decide +kernel
theorem at76_7 : jm_at 76 7 = some (.istore_n 0) := by decide +kernel
theorem at76_8 : jm_at 76 8 = some (.iload_n 0) := by decide +kernel
theorem at76_9 : jm_at 76 9 = some (.ifCond .gt 8) := by decide +kernel
theorem u76_0 {S : Option (Nat × (Nat → Int32))} {H : jm_H} {Q : Option Value → jm_H → Prop} {x0 : Int32} : jm_w S 1 76 0 [.int x0, .null] [] H Q = if 0 < ((x0 ^^^ (-1 : Int32)) &&& (x0 - (1 : Int32))) then jm_w S 1 76 17 [.int ((x0 ^^^ (-1 : Int32)) &&& (x0 - (1 : Int32))), .null] [] H Q else jm_w S 1 76 12 [.int ((x0 ^^^ (-1 : Int32)) &&& (x0 - (1 : Int32))), .null] [] H Q := (js1 at76_0 rfl rfl rfl).trans ((jsci at76_1 rfl rfl).trans ((js0 at76_2 rfl rfl rfl).trans ((js1 at76_3 rfl rfl rfl).trans ((jsci at76_4 rfl rfl).trans ((js0 at76_5 rfl rfl rfl).trans ((js0 at76_6 rfl rfl rfl).trans ((js1 at76_7 rfl rfl rfl).trans ((js1 at76_8 rfl rfl rfl).trans (jsif (P := 0 < ((x0 ^^^ (-1 : Int32)) &&& (x0 - (1 : Int32)))) at76_9 rfl rfl)))))))))
theorem at76_12 : jm_at 76 12 = some (.iload_n 0) := by decide +kernel
theorem at76_13 : jm_at 76 13 = some (.bipush 32) := by decide +kernel
theorem at76_15 : jm_at 76 15 = some (.iand) := by decide +kernel
theorem at76_16 : jm_at 76 16 = some (.ireturn) := by decide +kernel
theorem u76_12 {S : Option (Nat × (Nat → Int32))} {H : jm_H} {Q : Option Value → jm_H → Prop} {x0 : Int32} : jm_w S 1 76 12 [.int x0, .null] [] H Q = Q (some (.int (x0 &&& (32 : Int32)))) H := (js1 at76_12 rfl rfl rfl).trans ((jscb at76_13 rfl rfl).trans ((js0 at76_15 rfl rfl rfl).trans (jsret_i at76_16 rfl)))
theorem at76_17 : jm_at 76 17 = some (.iconst 1) := by decide +kernel
theorem at76_18 : jm_at 76 18 = some (.istore_n 1) := by decide +kernel
theorem at76_19 : jm_at 76 19 = some (.iload_n 0) := by decide +kernel
theorem at76_20 : jm_at 76 20 = some (.ldc_w 264) := by decide +kernel
theorem rv76l_264 : jm_rv 76 (.ldc_w 264) = (8, 0, 0, 65536) := by decide +kernel
theorem at76_23 : jm_at 76 23 = some (.if_icmp .le 11) := by decide +kernel
theorem u76_17 {S : Option (Nat × (Nat → Int32))} {H : jm_H} {Q : Option Value → jm_H → Prop} {x0 : Int32} : jm_w S 1 76 17 [.int x0, .null] [] H Q = if x0 ≤ (65536 : Int32) then jm_w S 1 76 34 [.int x0, .int (1 : Int32)] [] H Q else jm_w S 1 76 26 [.int x0, .int (1 : Int32)] [] H Q := (jsci at76_17 rfl rfl).trans ((js1 at76_18 rfl rfl rfl).trans ((js1 at76_19 rfl rfl rfl).trans ((jskw at76_20 rv76l_264 rfl rfl).trans (jsif (P := x0 ≤ (65536 : Int32)) at76_23 rfl rfl))))
theorem at76_26 : jm_at 76 26 = some (.iinc 1 16) := by decide +kernel
theorem at76_29 : jm_at 76 29 = some (.iload_n 0) := by decide +kernel
theorem at76_30 : jm_at 76 30 = some (.bipush 16) := by decide +kernel
theorem at76_32 : jm_at 76 32 = some (.iushr) := by decide +kernel
theorem at76_33 : jm_at 76 33 = some (.istore_n 0) := by decide +kernel
theorem u76_26 {S : Option (Nat × (Nat → Int32))} {H : jm_H} {Q : Option Value → jm_H → Prop} {x0 x1 : Int32} : jm_w S 1 76 26 [.int x0, .int x1] [] H Q = jm_w S 1 76 34 [.int ((Int32.toUInt32 x0 >>> (Int32.toUInt32 (16 : Int32) &&& Int32.toUInt32 31)).toInt32), .int (x1 + 16)] [] H Q := (jsinc at76_26 rfl rfl rfl).trans ((js1 at76_29 rfl rfl rfl).trans ((jscb at76_30 rfl rfl).trans ((js0 at76_32 rfl rfl rfl).trans (js1 at76_33 rfl rfl rfl))))
theorem at76_34 : jm_at 76 34 = some (.iload_n 0) := by decide +kernel
theorem at76_35 : jm_at 76 35 = some (.sipush 256) := by decide +kernel
theorem at76_38 : jm_at 76 38 = some (.if_icmp .le 11) := by decide +kernel
theorem u76_34 {S : Option (Nat × (Nat → Int32))} {H : jm_H} {Q : Option Value → jm_H → Prop} {x0 x1 : Int32} : jm_w S 1 76 34 [.int x0, .int x1] [] H Q = if x0 ≤ (256 : Int32) then jm_w S 1 76 49 [.int x0, .int x1] [] H Q else jm_w S 1 76 41 [.int x0, .int x1] [] H Q := (js1 at76_34 rfl rfl rfl).trans ((jscs at76_35 rfl rfl).trans (jsif (P := x0 ≤ (256 : Int32)) at76_38 rfl rfl))
theorem at76_41 : jm_at 76 41 = some (.iinc 1 8) := by decide +kernel
theorem at76_44 : jm_at 76 44 = some (.iload_n 0) := by decide +kernel
theorem at76_45 : jm_at 76 45 = some (.bipush 8) := by decide +kernel
theorem at76_47 : jm_at 76 47 = some (.iushr) := by decide +kernel
theorem at76_48 : jm_at 76 48 = some (.istore_n 0) := by decide +kernel
theorem u76_41 {S : Option (Nat × (Nat → Int32))} {H : jm_H} {Q : Option Value → jm_H → Prop} {x0 x1 : Int32} : jm_w S 1 76 41 [.int x0, .int x1] [] H Q = jm_w S 1 76 49 [.int ((Int32.toUInt32 x0 >>> (Int32.toUInt32 (8 : Int32) &&& Int32.toUInt32 31)).toInt32), .int (x1 + 8)] [] H Q := (jsinc at76_41 rfl rfl rfl).trans ((js1 at76_44 rfl rfl rfl).trans ((jscb at76_45 rfl rfl).trans ((js0 at76_47 rfl rfl rfl).trans (js1 at76_48 rfl rfl rfl))))
theorem at76_49 : jm_at 76 49 = some (.iload_n 0) := by decide +kernel
theorem at76_50 : jm_at 76 50 = some (.bipush 16) := by decide +kernel
theorem at76_52 : jm_at 76 52 = some (.if_icmp .le 10) := by decide +kernel
theorem u76_49 {S : Option (Nat × (Nat → Int32))} {H : jm_H} {Q : Option Value → jm_H → Prop} {x0 x1 : Int32} : jm_w S 1 76 49 [.int x0, .int x1] [] H Q = if x0 ≤ (16 : Int32) then jm_w S 1 76 62 [.int x0, .int x1] [] H Q else jm_w S 1 76 55 [.int x0, .int x1] [] H Q := (js1 at76_49 rfl rfl rfl).trans ((jscb at76_50 rfl rfl).trans (jsif (P := x0 ≤ (16 : Int32)) at76_52 rfl rfl))
theorem at76_55 : jm_at 76 55 = some (.iinc 1 4) := by decide +kernel
theorem at76_58 : jm_at 76 58 = some (.iload_n 0) := by decide +kernel
theorem at76_59 : jm_at 76 59 = some (.iconst 4) := by decide +kernel
theorem at76_60 : jm_at 76 60 = some (.iushr) := by decide +kernel
theorem at76_61 : jm_at 76 61 = some (.istore_n 0) := by decide +kernel
theorem u76_55 {S : Option (Nat × (Nat → Int32))} {H : jm_H} {Q : Option Value → jm_H → Prop} {x0 x1 : Int32} : jm_w S 1 76 55 [.int x0, .int x1] [] H Q = jm_w S 1 76 62 [.int ((Int32.toUInt32 x0 >>> (Int32.toUInt32 (4 : Int32) &&& Int32.toUInt32 31)).toInt32), .int (x1 + 4)] [] H Q := (jsinc at76_55 rfl rfl rfl).trans ((js1 at76_58 rfl rfl rfl).trans ((jsci at76_59 rfl rfl).trans ((js0 at76_60 rfl rfl rfl).trans (js1 at76_61 rfl rfl rfl))))
theorem at76_62 : jm_at 76 62 = some (.iload_n 0) := by decide +kernel
theorem at76_63 : jm_at 76 63 = some (.iconst 4) := by decide +kernel
theorem at76_64 : jm_at 76 64 = some (.if_icmp .le 10) := by decide +kernel
theorem u76_62 {S : Option (Nat × (Nat → Int32))} {H : jm_H} {Q : Option Value → jm_H → Prop} {x0 x1 : Int32} : jm_w S 1 76 62 [.int x0, .int x1] [] H Q = if x0 ≤ (4 : Int32) then jm_w S 1 76 74 [.int x0, .int x1] [] H Q else jm_w S 1 76 67 [.int x0, .int x1] [] H Q := (js1 at76_62 rfl rfl rfl).trans ((jsci at76_63 rfl rfl).trans (jsif (P := x0 ≤ (4 : Int32)) at76_64 rfl rfl))
theorem at76_67 : jm_at 76 67 = some (.iinc 1 2) := by decide +kernel
theorem at76_70 : jm_at 76 70 = some (.iload_n 0) := by decide +kernel
theorem at76_71 : jm_at 76 71 = some (.iconst 2) := by decide +kernel
theorem at76_72 : jm_at 76 72 = some (.iushr) := by decide +kernel
theorem at76_73 : jm_at 76 73 = some (.istore_n 0) := by decide +kernel
theorem u76_67 {S : Option (Nat × (Nat → Int32))} {H : jm_H} {Q : Option Value → jm_H → Prop} {x0 x1 : Int32} : jm_w S 1 76 67 [.int x0, .int x1] [] H Q = jm_w S 1 76 74 [.int ((Int32.toUInt32 x0 >>> (Int32.toUInt32 (2 : Int32) &&& Int32.toUInt32 31)).toInt32), .int (x1 + 2)] [] H Q := (jsinc at76_67 rfl rfl rfl).trans ((js1 at76_70 rfl rfl rfl).trans ((jsci at76_71 rfl rfl).trans ((js0 at76_72 rfl rfl rfl).trans (js1 at76_73 rfl rfl rfl))))
theorem at76_74 : jm_at 76 74 = some (.iload_n 1) := by decide +kernel
theorem at76_75 : jm_at 76 75 = some (.iload_n 0) := by decide +kernel
theorem at76_76 : jm_at 76 76 = some (.iconst 1) := by decide +kernel
theorem at76_77 : jm_at 76 77 = some (.iushr) := by decide +kernel
theorem at76_78 : jm_at 76 78 = some (.iadd) := by decide +kernel
theorem at76_79 : jm_at 76 79 = some (.ireturn) := by decide +kernel
theorem u76_74 {S : Option (Nat × (Nat → Int32))} {H : jm_H} {Q : Option Value → jm_H → Prop} {x0 x1 : Int32} : jm_w S 1 76 74 [.int x0, .int x1] [] H Q = Q (some (.int (x1 + ((Int32.toUInt32 x0 >>> (Int32.toUInt32 (1 : Int32) &&& Int32.toUInt32 31)).toInt32)))) H := (js1 at76_74 rfl rfl rfl).trans ((js1 at76_75 rfl rfl rfl).trans ((jsci at76_76 rfl rfl).trans ((js0 at76_77 rfl rfl rfl).trans ((js0 at76_78 rfl rfl rfl).trans (jsret_i at76_79 rfl)))))
theorem en76 {S : Option (Nat × (Nat → Int32))} {H : jm_H} {Q : Option Value → jm_H → Prop} {x0 : Int32} : jm_c S 76 [.int x0] H Q = jm_w S 1 76 0 [.int x0, .null] [] H Q := rfl
theorem at116_0 : jm_at 116 0 = some (.iload_n 0) := by decide +kernel
theorem at116_1 : jm_at 116 1 = some (.iload_n 1) := by decide +kernel
theorem at116_2 : jm_at 116 2 = some (.if_icmp .ge 7) := by decide +kernel
theorem u116_0 {S : Option (Nat × (Nat → Int32))} {H : jm_H} {Q : Option Value → jm_H → Prop} {x0 x1 : Int32} : jm_w S 1 116 0 [.int x0, .int x1] [] H Q = if x1 ≤ x0 then jm_w S 1 116 9 [.int x0, .int x1] [] H Q else jm_w S 1 116 5 [.int x0, .int x1] [] H Q := (js1 at116_0 rfl rfl rfl).trans ((js1 at116_1 rfl rfl rfl).trans (jsif (P := x1 ≤ x0) at116_2 rfl rfl))
theorem at116_5 : jm_at 116 5 = some (.iconst (-1)) := by decide +kernel
theorem at116_6 : jm_at 116 6 = some (.goto 13) := by decide +kernel
theorem u116_5 {S : Option (Nat × (Nat → Int32))} {H : jm_H} {Q : Option Value → jm_H → Prop} {x0 x1 : Int32} : jm_w S 1 116 5 [.int x0, .int x1] [] H Q = jm_w S 1 116 19 [.int x0, .int x1] [.int (-1 : Int32)] H Q := (jsci at116_5 rfl rfl).trans (js2 at116_6 rfl rfl)
theorem at116_9 : jm_at 116 9 = some (.iload_n 0) := by decide +kernel
theorem at116_10 : jm_at 116 10 = some (.iload_n 1) := by decide +kernel
theorem at116_11 : jm_at 116 11 = some (.if_icmp .ne 7) := by decide +kernel
theorem u116_9 {S : Option (Nat × (Nat → Int32))} {H : jm_H} {Q : Option Value → jm_H → Prop} {x0 x1 : Int32} : jm_w S 1 116 9 [.int x0, .int x1] [] H Q = if ¬ x0 = x1 then jm_w S 1 116 18 [.int x0, .int x1] [] H Q else jm_w S 1 116 14 [.int x0, .int x1] [] H Q := (js1 at116_9 rfl rfl rfl).trans ((js1 at116_10 rfl rfl rfl).trans (jsif (P := ¬ x0 = x1) at116_11 rfl rfl))
theorem at116_14 : jm_at 116 14 = some (.iconst 0) := by decide +kernel
theorem at116_15 : jm_at 116 15 = some (.goto 4) := by decide +kernel
theorem u116_14 {S : Option (Nat × (Nat → Int32))} {H : jm_H} {Q : Option Value → jm_H → Prop} {x0 x1 : Int32} : jm_w S 1 116 14 [.int x0, .int x1] [] H Q = jm_w S 1 116 19 [.int x0, .int x1] [.int (0 : Int32)] H Q := (jsci at116_14 rfl rfl).trans (js2 at116_15 rfl rfl)
theorem at116_18 : jm_at 116 18 = some (.iconst 1) := by decide +kernel
theorem u116_18 {S : Option (Nat × (Nat → Int32))} {H : jm_H} {Q : Option Value → jm_H → Prop} {x0 x1 : Int32} : jm_w S 1 116 18 [.int x0, .int x1] [] H Q = jm_w S 1 116 19 [.int x0, .int x1] [.int (1 : Int32)] H Q := jsci at116_18 rfl rfl
theorem at116_19 : jm_at 116 19 = some (.ireturn) := by decide +kernel
theorem u116_19 {S : Option (Nat × (Nat → Int32))} {H : jm_H} {Q : Option Value → jm_H → Prop} {x0 x1 p0 : Int32} : jm_w S 1 116 19 [.int x0, .int x1] [.int p0] H Q = Q (some (.int p0)) H := jsret_i at116_19 rfl
theorem en116 {S : Option (Nat × (Nat → Int32))} {H : jm_H} {Q : Option Value → jm_H → Prop} {x0 x1 : Int32} : jm_c S 116 [.int x0, .int x1] H Q = jm_w S 1 116 0 [.int x0, .int x1] [] H Q := rfl
theorem at54_0 : jm_at 54 0 = some (.lload_n 0) := by decide +kernel
theorem at54_1 : jm_at 54 1 = some (.bipush 32) := by decide +kernel
theorem at54_3 : jm_at 54 3 = some (.lushr) := by decide +kernel
theorem at54_4 : jm_at 54 4 = some (.l2i) := by decide +kernel
theorem at54_5 : jm_at 54 5 = some (.istore_n 2) := by decide +kernel
theorem at54_6 : jm_at 54 6 = some (.iload_n 2) := by decide +kernel
theorem at54_7 : jm_at 54 7 = some (.ifCond .ne 14) := by decide +kernel
theorem u54_0 {S : Option (Nat × (Nat → Int32))} {H : jm_H} {Q : Option Value → jm_H → Prop} {y0 : Int64} : jm_w S 2 54 0 [.long y0, .null, .null] [] H Q = if ¬ (Int64.toInt32 ((Int64.toUInt64 y0 >>> (Int64.toUInt64 (Int32.toInt64 (32 : Int32)) &&& Int64.toUInt64 63)).toInt64)) = 0 then jm_w S 2 54 21 [.long y0, .null, .int (Int64.toInt32 ((Int64.toUInt64 y0 >>> (Int64.toUInt64 (Int32.toInt64 (32 : Int32)) &&& Int64.toUInt64 63)).toInt64))] [] H Q else jm_w S 2 54 10 [.long y0, .null, .int (Int64.toInt32 ((Int64.toUInt64 y0 >>> (Int64.toUInt64 (Int32.toInt64 (32 : Int32)) &&& Int64.toUInt64 63)).toInt64))] [] H Q := (js1 at54_0 rfl rfl rfl).trans ((jscb at54_1 rfl rfl).trans ((js0 at54_3 rfl rfl rfl).trans ((js0 at54_4 rfl rfl rfl).trans ((js1 at54_5 rfl rfl rfl).trans ((js1 at54_6 rfl rfl rfl).trans (jsif (P := ¬ (Int64.toInt32 ((Int64.toUInt64 y0 >>> (Int64.toUInt64 (Int32.toInt64 (32 : Int32)) &&& Int64.toUInt64 63)).toInt64)) = 0) at54_7 rfl rfl))))))
theorem at54_10 : jm_at 54 10 = some (.bipush 32) := by decide +kernel
theorem at54_12 : jm_at 54 12 = some (.lload_n 0) := by decide +kernel
theorem at54_13 : jm_at 54 13 = some (.l2i) := by decide +kernel
theorem at54_14 : jm_at 54 14 = some (.invokestatic 308) := by decide +kernel
theorem rv54i_308 : jm_rv 54 (.invokestatic 308) = (1, 55, 0, 0) := by decide +kernel
theorem u54_10 {S : Option (Nat × (Nat → Int32))} {H : jm_H} {Q : Option Value → jm_H → Prop} {y0 : Int64} {x2 : Int32} : jm_w S 2 54 10 [.long y0, .null, .int x2] [] H Q = jm_c S 55 [.int (Int64.toInt32 y0)] H (fun v G => jm_w S 2 54 17 [.long y0, .null, .int x2] (v.toList ++ [.int (32 : Int32)]) G Q) := (jscb at54_10 rfl rfl).trans ((js1 at54_12 rfl rfl rfl).trans ((js0 at54_13 rfl rfl rfl).trans (jscall (H := H) (as := [.int (Int64.toInt32 y0)]) (q := [.int (32 : Int32)]) at54_14 rfl rv54i_308 (jscut rfl rfl rfl (Nat.le_of_ble_eq_true rfl)) rfl (Nat.le_of_ble_eq_true rfl) rfl rfl)))
theorem at54_17 : jm_at 54 17 = some (.iadd) := by decide +kernel
theorem at54_18 : jm_at 54 18 = some (.goto 7) := by decide +kernel
theorem u54_17 {S : Option (Nat × (Nat → Int32))} {H : jm_H} {Q : Option Value → jm_H → Prop} {y0 : Int64} {x2 p0 p1 : Int32} : jm_w S 2 54 17 [.long y0, .null, .int x2] [.int p1, .int p0] H Q = jm_w S 2 54 25 [.long y0, .null, .int x2] [.int (p0 + p1)] H Q := (js0 at54_17 rfl rfl rfl).trans (js2 at54_18 rfl rfl)
theorem at54_21 : jm_at 54 21 = some (.iload_n 2) := by decide +kernel
theorem at54_22 : jm_at 54 22 = some (.invokestatic 308) := by decide +kernel
theorem u54_21 {S : Option (Nat × (Nat → Int32))} {H : jm_H} {Q : Option Value → jm_H → Prop} {y0 : Int64} {x2 : Int32} : jm_w S 2 54 21 [.long y0, .null, .int x2] [] H Q = jm_c S 55 [.int x2] H (fun v G => jm_w S 2 54 25 [.long y0, .null, .int x2] (v.toList ++ []) G Q) := (js1 at54_21 rfl rfl rfl).trans (jscall (H := H) (as := [.int x2]) (q := []) at54_22 rfl rv54i_308 (jscut rfl rfl rfl (Nat.le_of_ble_eq_true rfl)) rfl (Nat.le_of_ble_eq_true rfl) rfl rfl)
theorem at54_25 : jm_at 54 25 = some (.ireturn) := by decide +kernel
theorem u54_25 {S : Option (Nat × (Nat → Int32))} {H : jm_H} {Q : Option Value → jm_H → Prop} {y0 : Int64} {x2 p0 : Int32} : jm_w S 2 54 25 [.long y0, .null, .int x2] [.int p0] H Q = Q (some (.int p0)) H := jsret_i at54_25 rfl
theorem en54 {S : Option (Nat × (Nat → Int32))} {H : jm_H} {Q : Option Value → jm_H → Prop} {y0 : Int64} : jm_c S 54 [.long y0] H Q = jm_w S 2 54 0 [.long y0, .null, .null] [] H Q := rfl
theorem at75_0 : jm_at 75 0 = some (.lload_n 0) := by decide +kernel
theorem at75_1 : jm_at 75 1 = some (.l2i) := by decide +kernel
theorem at75_2 : jm_at 75 2 = some (.istore_n 2) := by decide +kernel
theorem at75_3 : jm_at 75 3 = some (.iload_n 2) := by decide +kernel
theorem at75_4 : jm_at 75 4 = some (.ifCond .ne 17) := by decide +kernel
theorem u75_0 {S : Option (Nat × (Nat → Int32))} {H : jm_H} {Q : Option Value → jm_H → Prop} {y0 : Int64} : jm_w S 2 75 0 [.long y0, .null, .null] [] H Q = if ¬ (Int64.toInt32 y0) = 0 then jm_w S 2 75 21 [.long y0, .null, .int (Int64.toInt32 y0)] [] H Q else jm_w S 2 75 7 [.long y0, .null, .int (Int64.toInt32 y0)] [] H Q := (js1 at75_0 rfl rfl rfl).trans ((js0 at75_1 rfl rfl rfl).trans ((js1 at75_2 rfl rfl rfl).trans ((js1 at75_3 rfl rfl rfl).trans (jsif (P := ¬ (Int64.toInt32 y0) = 0) at75_4 rfl rfl))))
theorem at75_7 : jm_at 75 7 = some (.bipush 32) := by decide +kernel
theorem at75_9 : jm_at 75 9 = some (.lload_n 0) := by decide +kernel
theorem at75_10 : jm_at 75 10 = some (.bipush 32) := by decide +kernel
theorem at75_12 : jm_at 75 12 = some (.lushr) := by decide +kernel
theorem at75_13 : jm_at 75 13 = some (.l2i) := by decide +kernel
theorem at75_14 : jm_at 75 14 = some (.invokestatic 311) := by decide +kernel
theorem rv75i_311 : jm_rv 75 (.invokestatic 311) = (1, 76, 0, 0) := by decide +kernel
theorem u75_7 {S : Option (Nat × (Nat → Int32))} {H : jm_H} {Q : Option Value → jm_H → Prop} {y0 : Int64} {x2 : Int32} : jm_w S 2 75 7 [.long y0, .null, .int x2] [] H Q = jm_c S 76 [.int (Int64.toInt32 ((Int64.toUInt64 y0 >>> (Int64.toUInt64 (Int32.toInt64 (32 : Int32)) &&& Int64.toUInt64 63)).toInt64))] H (fun v G => jm_w S 2 75 17 [.long y0, .null, .int x2] (v.toList ++ [.int (32 : Int32)]) G Q) := (jscb at75_7 rfl rfl).trans ((js1 at75_9 rfl rfl rfl).trans ((jscb at75_10 rfl rfl).trans ((js0 at75_12 rfl rfl rfl).trans ((js0 at75_13 rfl rfl rfl).trans (jscall (H := H) (as := [.int (Int64.toInt32 ((Int64.toUInt64 y0 >>> (Int64.toUInt64 (Int32.toInt64 (32 : Int32)) &&& Int64.toUInt64 63)).toInt64))]) (q := [.int (32 : Int32)]) at75_14 rfl rv75i_311 (jscut rfl rfl rfl (Nat.le_of_ble_eq_true rfl)) rfl (Nat.le_of_ble_eq_true rfl) rfl rfl)))))
theorem at75_17 : jm_at 75 17 = some (.iadd) := by decide +kernel
theorem at75_18 : jm_at 75 18 = some (.goto 7) := by decide +kernel
theorem u75_17 {S : Option (Nat × (Nat → Int32))} {H : jm_H} {Q : Option Value → jm_H → Prop} {y0 : Int64} {x2 p0 p1 : Int32} : jm_w S 2 75 17 [.long y0, .null, .int x2] [.int p1, .int p0] H Q = jm_w S 2 75 25 [.long y0, .null, .int x2] [.int (p0 + p1)] H Q := (js0 at75_17 rfl rfl rfl).trans (js2 at75_18 rfl rfl)
theorem at75_21 : jm_at 75 21 = some (.iload_n 2) := by decide +kernel
theorem at75_22 : jm_at 75 22 = some (.invokestatic 311) := by decide +kernel
theorem u75_21 {S : Option (Nat × (Nat → Int32))} {H : jm_H} {Q : Option Value → jm_H → Prop} {y0 : Int64} {x2 : Int32} : jm_w S 2 75 21 [.long y0, .null, .int x2] [] H Q = jm_c S 76 [.int x2] H (fun v G => jm_w S 2 75 25 [.long y0, .null, .int x2] (v.toList ++ []) G Q) := (js1 at75_21 rfl rfl rfl).trans (jscall (H := H) (as := [.int x2]) (q := []) at75_22 rfl rv75i_311 (jscut rfl rfl rfl (Nat.le_of_ble_eq_true rfl)) rfl (Nat.le_of_ble_eq_true rfl) rfl rfl)
theorem at75_25 : jm_at 75 25 = some (.ireturn) := by decide +kernel
theorem u75_25 {S : Option (Nat × (Nat → Int32))} {H : jm_H} {Q : Option Value → jm_H → Prop} {y0 : Int64} {x2 p0 : Int32} : jm_w S 2 75 25 [.long y0, .null, .int x2] [.int p0] H Q = Q (some (.int p0)) H := jsret_i at75_25 rfl
theorem en75 {S : Option (Nat × (Nat → Int32))} {H : jm_H} {Q : Option Value → jm_H → Prop} {y0 : Int64} : jm_c S 75 [.long y0] H Q = jm_w S 2 75 0 [.long y0, .null, .null] [] H Q := rfl
theorem at47_0 : jm_at 47 0 = some (.lload_n 0) := by decide +kernel
theorem at47_1 : jm_at 47 1 = some (.lconst 0) := by decide +kernel
theorem at47_2 : jm_at 47 2 = some (.lcmp) := by decide +kernel
theorem at47_3 : jm_at 47 3 = some (.ifCond .ge 8) := by decide +kernel
theorem u47_0 {S : Option (Nat × (Nat → Int32))} {H : jm_H} {Q : Option Value → jm_H → Prop} {y0 : Int64} : jm_w S 1 47 0 [.long y0, .null] [] H Q = if 0 ≤ (lg_cmp y0 (0 : Int64)) then jm_w S 1 47 11 [.long y0, .null] [] H Q else jm_w S 1 47 6 [.long y0, .null] [] H Q := (js1 at47_0 rfl rfl rfl).trans ((jscl at47_1 rfl rfl).trans ((js0 at47_2 rfl rfl rfl).trans (jsif (P := 0 ≤ (lg_cmp y0 (0 : Int64))) at47_3 rfl rfl)))
theorem at47_6 : jm_at 47 6 = some (.lload_n 0) := by decide +kernel
theorem at47_7 : jm_at 47 7 = some (.lneg) := by decide +kernel
theorem at47_8 : jm_at 47 8 = some (.goto 4) := by decide +kernel
theorem u47_6 {S : Option (Nat × (Nat → Int32))} {H : jm_H} {Q : Option Value → jm_H → Prop} {y0 : Int64} : jm_w S 1 47 6 [.long y0, .null] [] H Q = jm_w S 1 47 12 [.long y0, .null] [.long (-y0)] H Q := (js1 at47_6 rfl rfl rfl).trans ((js0 at47_7 rfl rfl rfl).trans (js2 at47_8 rfl rfl))
theorem at47_11 : jm_at 47 11 = some (.lload_n 0) := by decide +kernel
theorem u47_11 {S : Option (Nat × (Nat → Int32))} {H : jm_H} {Q : Option Value → jm_H → Prop} {y0 : Int64} : jm_w S 1 47 11 [.long y0, .null] [] H Q = jm_w S 1 47 12 [.long y0, .null] [.long y0] H Q := js1 at47_11 rfl rfl rfl
theorem at47_12 : jm_at 47 12 = some (.lreturn) := by decide +kernel
theorem u47_12 {S : Option (Nat × (Nat → Int32))} {H : jm_H} {Q : Option Value → jm_H → Prop} {y0 q0 : Int64} : jm_w S 1 47 12 [.long y0, .null] [.long q0] H Q = Q (some (.long q0)) H := jsret_l at47_12 rfl
theorem en47 {S : Option (Nat × (Nat → Int32))} {H : jm_H} {Q : Option Value → jm_H → Prop} {y0 : Int64} : jm_c S 47 [.long y0] H Q = jm_w S 1 47 0 [.long y0, .null] [] H Q := rfl
theorem at57_0 : jm_at 57 0 = some (.iload_n 0) := by decide +kernel
theorem at57_1 : jm_at 57 1 = some (.iload_n 1) := by decide +kernel
theorem at57_2 : jm_at 57 2 = some (.if_icmp .gt 7) := by decide +kernel
theorem u57_0 {S : Option (Nat × (Nat → Int32))} {H : jm_H} {Q : Option Value → jm_H → Prop} {x0 x1 : Int32} : jm_w S 1 57 0 [.int x0, .int x1] [] H Q = if x1 < x0 then jm_w S 1 57 9 [.int x0, .int x1] [] H Q else jm_w S 1 57 5 [.int x0, .int x1] [] H Q := (js1 at57_0 rfl rfl rfl).trans ((js1 at57_1 rfl rfl rfl).trans (jsif (P := x1 < x0) at57_2 rfl rfl))
theorem at57_5 : jm_at 57 5 = some (.iload_n 0) := by decide +kernel
theorem at57_6 : jm_at 57 6 = some (.goto 4) := by decide +kernel
theorem u57_5 {S : Option (Nat × (Nat → Int32))} {H : jm_H} {Q : Option Value → jm_H → Prop} {x0 x1 : Int32} : jm_w S 1 57 5 [.int x0, .int x1] [] H Q = jm_w S 1 57 10 [.int x0, .int x1] [.int x0] H Q := (js1 at57_5 rfl rfl rfl).trans (js2 at57_6 rfl rfl)
theorem at57_9 : jm_at 57 9 = some (.iload_n 1) := by decide +kernel
theorem u57_9 {S : Option (Nat × (Nat → Int32))} {H : jm_H} {Q : Option Value → jm_H → Prop} {x0 x1 : Int32} : jm_w S 1 57 9 [.int x0, .int x1] [] H Q = jm_w S 1 57 10 [.int x0, .int x1] [.int x1] H Q := js1 at57_9 rfl rfl rfl
theorem at57_10 : jm_at 57 10 = some (.ireturn) := by decide +kernel
theorem u57_10 {S : Option (Nat × (Nat → Int32))} {H : jm_H} {Q : Option Value → jm_H → Prop} {x0 x1 p0 : Int32} : jm_w S 1 57 10 [.int x0, .int x1] [.int p0] H Q = Q (some (.int p0)) H := jsret_i at57_10 rfl
theorem en57 {S : Option (Nat × (Nat → Int32))} {H : jm_H} {Q : Option Value → jm_H → Prop} {x0 x1 : Int32} : jm_c S 57 [.int x0, .int x1] H Q = jm_w S 1 57 0 [.int x0, .int x1] [] H Q := rfl
theorem at74_0 : jm_at 74 0 = some (.iload_n 0) := by decide +kernel
theorem at74_1 : jm_at 74 1 = some (.iload_n 1) := by decide +kernel
theorem at74_2 : jm_at 74 2 = some (.if_icmp .lt 7) := by decide +kernel
theorem u74_0 {S : Option (Nat × (Nat → Int32))} {H : jm_H} {Q : Option Value → jm_H → Prop} {x0 x1 : Int32} : jm_w S 1 74 0 [.int x0, .int x1] [] H Q = if x0 < x1 then jm_w S 1 74 9 [.int x0, .int x1] [] H Q else jm_w S 1 74 5 [.int x0, .int x1] [] H Q := (js1 at74_0 rfl rfl rfl).trans ((js1 at74_1 rfl rfl rfl).trans (jsif (P := x0 < x1) at74_2 rfl rfl))
theorem at74_5 : jm_at 74 5 = some (.iload_n 0) := by decide +kernel
theorem at74_6 : jm_at 74 6 = some (.goto 4) := by decide +kernel
theorem u74_5 {S : Option (Nat × (Nat → Int32))} {H : jm_H} {Q : Option Value → jm_H → Prop} {x0 x1 : Int32} : jm_w S 1 74 5 [.int x0, .int x1] [] H Q = jm_w S 1 74 10 [.int x0, .int x1] [.int x0] H Q := (js1 at74_5 rfl rfl rfl).trans (js2 at74_6 rfl rfl)
theorem at74_9 : jm_at 74 9 = some (.iload_n 1) := by decide +kernel
theorem u74_9 {S : Option (Nat × (Nat → Int32))} {H : jm_H} {Q : Option Value → jm_H → Prop} {x0 x1 : Int32} : jm_w S 1 74 9 [.int x0, .int x1] [] H Q = jm_w S 1 74 10 [.int x0, .int x1] [.int x1] H Q := js1 at74_9 rfl rfl rfl
theorem at74_10 : jm_at 74 10 = some (.ireturn) := by decide +kernel
theorem u74_10 {S : Option (Nat × (Nat → Int32))} {H : jm_H} {Q : Option Value → jm_H → Prop} {x0 x1 p0 : Int32} : jm_w S 1 74 10 [.int x0, .int x1] [.int p0] H Q = Q (some (.int p0)) H := jsret_i at74_10 rfl
theorem en74 {S : Option (Nat × (Nat → Int32))} {H : jm_H} {Q : Option Value → jm_H → Prop} {x0 x1 : Int32} : jm_c S 74 [.int x0, .int x1] H Q = jm_w S 1 74 0 [.int x0, .int x1] [] H Q := rfl
theorem at95_0 : jm_at 95 0 = some (.iload_n 0) := by decide +kernel
theorem at95_1 : jm_at 95 1 = some (.iload_n 1) := by decide +kernel
theorem at95_2 : jm_at 95 2 = some (.irem) := by decide +kernel
theorem at95_3 : jm_at 95 3 = some (.istore_n 2) := by decide +kernel
theorem at95_4 : jm_at 95 4 = some (.iload_n 0) := by decide +kernel
theorem at95_5 : jm_at 95 5 = some (.iload_n 1) := by decide +kernel
theorem at95_6 : jm_at 95 6 = some (.ixor) := by decide +kernel
theorem at95_7 : jm_at 95 7 = some (.ifCond .ge 11) := by decide +kernel
theorem u95_0 {S : Option (Nat × (Nat → Int32))} {H : jm_H} {Q : Option Value → jm_H → Prop} {x0 x1 : Int32} (h0 : ¬ x1 = 0) : jm_w S 1 95 0 [.int x0, .int x1, .null] [] H Q = if 0 ≤ (x0 ^^^ x1) then jm_w S 1 95 18 [.int x0, .int x1, .int (x0 - x0 / x1 * x1)] [] H Q else jm_w S 1 95 10 [.int x0, .int x1, .int (x0 - x0 / x1 * x1)] [] H Q := (js1 at95_0 rfl rfl rfl).trans ((js1 at95_1 rfl rfl rfl).trans ((jsirem at95_2 h0 rfl).trans ((js1 at95_3 rfl rfl rfl).trans ((js1 at95_4 rfl rfl rfl).trans ((js1 at95_5 rfl rfl rfl).trans ((js0 at95_6 rfl rfl rfl).trans (jsif (P := 0 ≤ (x0 ^^^ x1)) at95_7 rfl rfl)))))))
theorem at95_10 : jm_at 95 10 = some (.iload_n 2) := by decide +kernel
theorem at95_11 : jm_at 95 11 = some (.ifCond .eq 7) := by decide +kernel
theorem u95_10 {S : Option (Nat × (Nat → Int32))} {H : jm_H} {Q : Option Value → jm_H → Prop} {x0 x1 x2 : Int32} : jm_w S 1 95 10 [.int x0, .int x1, .int x2] [] H Q = if x2 = 0 then jm_w S 1 95 18 [.int x0, .int x1, .int x2] [] H Q else jm_w S 1 95 14 [.int x0, .int x1, .int x2] [] H Q := (js1 at95_10 rfl rfl rfl).trans (jsif (P := x2 = 0) at95_11 rfl rfl)
theorem at95_14 : jm_at 95 14 = some (.iload_n 2) := by decide +kernel
theorem at95_15 : jm_at 95 15 = some (.iload_n 1) := by decide +kernel
theorem at95_16 : jm_at 95 16 = some (.iadd) := by decide +kernel
theorem at95_17 : jm_at 95 17 = some (.ireturn) := by decide +kernel
theorem u95_14 {S : Option (Nat × (Nat → Int32))} {H : jm_H} {Q : Option Value → jm_H → Prop} {x0 x1 x2 : Int32} : jm_w S 1 95 14 [.int x0, .int x1, .int x2] [] H Q = Q (some (.int (x2 + x1))) H := (js1 at95_14 rfl rfl rfl).trans ((js1 at95_15 rfl rfl rfl).trans ((js0 at95_16 rfl rfl rfl).trans (jsret_i at95_17 rfl)))
theorem at95_18 : jm_at 95 18 = some (.iload_n 2) := by decide +kernel
theorem at95_19 : jm_at 95 19 = some (.ireturn) := by decide +kernel
theorem u95_18 {S : Option (Nat × (Nat → Int32))} {H : jm_H} {Q : Option Value → jm_H → Prop} {x0 x1 x2 : Int32} : jm_w S 1 95 18 [.int x0, .int x1, .int x2] [] H Q = Q (some (.int x2)) H := (js1 at95_18 rfl rfl rfl).trans (jsret_i at95_19 rfl)
theorem en95 {S : Option (Nat × (Nat → Int32))} {H : jm_H} {Q : Option Value → jm_H → Prop} {x0 x1 : Int32} : jm_c S 95 [.int x0, .int x1] H Q = jm_w S 1 95 0 [.int x0, .int x1, .null] [] H Q := rfl
theorem at110_0 : jm_at 110 0 = some (.lload_n 0) := by decide +kernel
theorem at110_1 : jm_at 110 1 = some (.lload_n 2) := by decide +kernel
theorem at110_2 : jm_at 110 2 = some (.lcmp) := by decide +kernel
theorem at110_3 : jm_at 110 3 = some (.ifCond .gt 7) := by decide +kernel
theorem u110_0 {S : Option (Nat × (Nat → Int32))} {H : jm_H} {Q : Option Value → jm_H → Prop} {y0 y2 : Int64} : jm_w S 1 110 0 [.long y0, .null, .long y2, .null] [] H Q = if 0 < (lg_cmp y0 y2) then jm_w S 1 110 10 [.long y0, .null, .long y2, .null] [] H Q else jm_w S 1 110 6 [.long y0, .null, .long y2, .null] [] H Q := (js1 at110_0 rfl rfl rfl).trans ((js1 at110_1 rfl rfl rfl).trans ((js0 at110_2 rfl rfl rfl).trans (jsif (P := 0 < (lg_cmp y0 y2)) at110_3 rfl rfl)))
theorem at110_6 : jm_at 110 6 = some (.lload_n 0) := by decide +kernel
theorem at110_7 : jm_at 110 7 = some (.goto 4) := by decide +kernel
theorem u110_6 {S : Option (Nat × (Nat → Int32))} {H : jm_H} {Q : Option Value → jm_H → Prop} {y0 y2 : Int64} : jm_w S 1 110 6 [.long y0, .null, .long y2, .null] [] H Q = jm_w S 1 110 11 [.long y0, .null, .long y2, .null] [.long y0] H Q := (js1 at110_6 rfl rfl rfl).trans (js2 at110_7 rfl rfl)
theorem at110_10 : jm_at 110 10 = some (.lload_n 2) := by decide +kernel
theorem u110_10 {S : Option (Nat × (Nat → Int32))} {H : jm_H} {Q : Option Value → jm_H → Prop} {y0 y2 : Int64} : jm_w S 1 110 10 [.long y0, .null, .long y2, .null] [] H Q = jm_w S 1 110 11 [.long y0, .null, .long y2, .null] [.long y2] H Q := js1 at110_10 rfl rfl rfl
theorem at110_11 : jm_at 110 11 = some (.lreturn) := by decide +kernel
theorem u110_11 {S : Option (Nat × (Nat → Int32))} {H : jm_H} {Q : Option Value → jm_H → Prop} {y0 y2 q0 : Int64} : jm_w S 1 110 11 [.long y0, .null, .long y2, .null] [.long q0] H Q = Q (some (.long q0)) H := jsret_l at110_11 rfl
theorem en110 {S : Option (Nat × (Nat → Int32))} {H : jm_H} {Q : Option Value → jm_H → Prop} {y0 y2 : Int64} : jm_c S 110 [.long y0, .long y2] H Q = jm_w S 1 110 0 [.long y0, .null, .long y2, .null] [] H Q := rfl
theorem at12_0 : jm_at 12 0 = some (.iconst 0) := by decide +kernel
theorem at12_1 : jm_at 12 1 = some (.istore_n 2) := by decide +kernel
theorem at12_2 : jm_at 12 2 = some (.aload_n 0) := by decide +kernel
theorem at12_3 : jm_at 12 3 = some (.arraylength) := by decide +kernel
theorem at12_4 : jm_at 12 4 = some (.istore_n 3) := by decide +kernel
theorem u12_0 {S : Option (Nat × (Nat → Int32))} {H : jm_H} {Q : Option Value → jm_H → Prop} {r0 : Nat} {x1 : Int32} (h0 : ¬ r0 = 1) (h1 : 100 ≤ jm_tg H r0) : jm_w S 1 12 0 [.ref r0, .int x1, .null, .null] [] H Q = jm_w S 1 12 5 [.ref r0, .int x1, .int (0 : Int32), .int (Int32.ofNat (jm_ln H r0))] [] H Q := (jsci at12_0 rfl rfl).trans ((js1 at12_1 rfl rfl rfl).trans ((js1 at12_2 rfl rfl rfl).trans ((jsaln (H := H) at12_3 h0 h1 rfl).trans (js1 at12_4 rfl rfl rfl))))
theorem at12_5 : jm_at 12 5 = some (.iload_n 2) := by decide +kernel
theorem at12_6 : jm_at 12 6 = some (.iload_n 3) := by decide +kernel
theorem at12_7 : jm_at 12 7 = some (.if_icmp .ge 13) := by decide +kernel
theorem u12_5 {S : Option (Nat × (Nat → Int32))} {H : jm_H} {Q : Option Value → jm_H → Prop} {r0 : Nat} {x1 x2 x3 : Int32} : jm_w S 1 12 5 [.ref r0, .int x1, .int x2, .int x3] [] H Q = if x3 ≤ x2 then jm_w S 1 12 20 [.ref r0, .int x1, .int x2, .int x3] [] H Q else jm_w S 1 12 10 [.ref r0, .int x1, .int x2, .int x3] [] H Q := (js1 at12_5 rfl rfl rfl).trans ((js1 at12_6 rfl rfl rfl).trans (jsif (P := x3 ≤ x2) at12_7 rfl rfl))
theorem at12_10 : jm_at 12 10 = some (.aload_n 0) := by decide +kernel
theorem at12_11 : jm_at 12 11 = some (.iload_n 2) := by decide +kernel
theorem at12_12 : jm_at 12 12 = some (.iload_n 1) := by decide +kernel
theorem at12_13 : jm_at 12 13 = some (.iastore) := by decide +kernel
theorem at12_14 : jm_at 12 14 = some (.iinc 2 1) := by decide +kernel
theorem at12_17 : jm_at 12 17 = some (.goto (-12)) := by decide +kernel
theorem u12_10 {S : Option (Nat × (Nat → Int32))} {H : jm_H} {Q : Option Value → jm_H → Prop} {r0 : Nat} {x1 x2 x3 : Int32} (h0 : ¬ (x2 < 0 ∨ jm_ln H r0 ≤ Int32.toNatClampNeg x2)) (h1 : jm_tg H r0 = 100) : jm_w S 1 12 10 [.ref r0, .int x1, .int x2, .int x3] [] H Q = jm_w S 1 12 5 [.ref r0, .int x1, .int (x2 + 1), .int x3] [] (jm_pI H r0 (Int32.toNatClampNeg x2) x1) Q := (js1 at12_10 rfl rfl rfl).trans ((js1 at12_11 rfl rfl rfl).trans ((js1 at12_12 rfl rfl rfl).trans ((jsias (H := H) at12_13 h1 h0 rfl).trans ((jsinc at12_14 rfl rfl rfl).trans (js2 at12_17 rfl rfl)))))
theorem at12_20 : jm_at 12 20 = some (.return_) := by decide +kernel
theorem u12_20 {S : Option (Nat × (Nat → Int32))} {H : jm_H} {Q : Option Value → jm_H → Prop} {r0 : Nat} {x1 x2 x3 : Int32} : jm_w S 1 12 20 [.ref r0, .int x1, .int x2, .int x3] [] H Q = Q none H := jsret_v at12_20 rfl
theorem en12 {S : Option (Nat × (Nat → Int32))} {H : jm_H} {Q : Option Value → jm_H → Prop} {r0 : Nat} {x1 : Int32} : jm_c S 12 [.ref r0, .int x1] H Q = jm_w S 1 12 0 [.ref r0, .int x1, .null, .null] [] H Q := rfl
theorem at50_0 : jm_at 50 0 = some (.iconst 1) := by decide +kernel
theorem at50_1 : jm_at 50 1 = some (.iload_n 0) := by decide +kernel
theorem at50_2 : jm_at 50 2 = some (.iconst 1) := by decide +kernel
theorem at50_3 : jm_at 50 3 = some (.isub) := by decide +kernel
theorem at50_4 : jm_at 50 4 = some (.ishl) := by decide +kernel
theorem at50_5 : jm_at 50 5 = some (.ireturn) := by decide +kernel
theorem u50_0 {S : Option (Nat × (Nat → Int32))} {H : jm_H} {Q : Option Value → jm_H → Prop} {x0 : Int32} : jm_w S 1 50 0 [.int x0] [] H Q = Q (some (.int ((1 : Int32) <<< ((x0 - (1 : Int32)) &&& 31)))) H := (jsci at50_0 rfl rfl).trans ((js1 at50_1 rfl rfl rfl).trans ((jsci at50_2 rfl rfl).trans ((js0 at50_3 rfl rfl rfl).trans ((js0 at50_4 rfl rfl rfl).trans (jsret_i at50_5 rfl)))))
theorem en50 {S : Option (Nat × (Nat → Int32))} {H : jm_H} {Q : Option Value → jm_H → Prop} {x0 : Int32} : jm_c S 50 [.int x0] H Q = jm_w S 1 50 0 [.int x0] [] H Q := rfl
theorem at60_0 : jm_at 60 0 = some (.iload_n 0) := by decide +kernel
theorem at60_1 : jm_at 60 1 = some (.invokestatic 17) := by decide +kernel
theorem rv60i_17 : jm_rv 60 (.invokestatic 17) = (1, 50, 0, 0) := by decide +kernel
theorem u60_0 {S : Option (Nat × (Nat → Int32))} {H : jm_H} {Q : Option Value → jm_H → Prop} {x0 : Int32} : jm_w S 2 60 0 [.int x0] [] H Q = jm_c S 50 [.int x0] H (fun v G => jm_w S 2 60 4 [.int x0] (v.toList ++ []) G Q) := (js1 at60_0 rfl rfl rfl).trans (jscall (H := H) (as := [.int x0]) (q := []) at60_1 rfl rv60i_17 (jscut rfl rfl rfl (Nat.le_of_ble_eq_true rfl)) rfl (Nat.le_of_ble_eq_true rfl) rfl rfl)
theorem at60_4 : jm_at 60 4 = some (.iconst 1) := by decide +kernel
theorem at60_5 : jm_at 60 5 = some (.isub) := by decide +kernel
theorem at60_6 : jm_at 60 6 = some (.ireturn) := by decide +kernel
theorem u60_4 {S : Option (Nat × (Nat → Int32))} {H : jm_H} {Q : Option Value → jm_H → Prop} {x0 p0 : Int32} : jm_w S 2 60 4 [.int x0] [.int p0] H Q = Q (some (.int (p0 - (1 : Int32)))) H := (jsci at60_4 rfl rfl).trans ((js0 at60_5 rfl rfl rfl).trans (jsret_i at60_6 rfl))
theorem en60 {S : Option (Nat × (Nat → Int32))} {H : jm_H} {Q : Option Value → jm_H → Prop} {x0 : Int32} : jm_c S 60 [.int x0] H Q = jm_w S 2 60 0 [.int x0] [] H Q := rfl
theorem at64_0 : jm_at 64 0 = some (.iload_n 1) := by decide +kernel
theorem at64_1 : jm_at 64 1 = some (.ineg) := by decide +kernel
theorem at64_2 : jm_at 64 2 = some (.iconst 1) := by decide +kernel
theorem at64_3 : jm_at 64 3 = some (.iload_n 0) := by decide +kernel
theorem at64_4 : jm_at 64 4 = some (.ishl) := by decide +kernel
theorem at64_5 : jm_at 64 5 = some (.iconst 1) := by decide +kernel
theorem at64_6 : jm_at 64 6 = some (.isub) := by decide +kernel
theorem at64_7 : jm_at 64 7 = some (.iand) := by decide +kernel
theorem at64_8 : jm_at 64 8 = some (.ireturn) := by decide +kernel
theorem u64_0 {S : Option (Nat × (Nat → Int32))} {H : jm_H} {Q : Option Value → jm_H → Prop} {x0 x1 : Int32} : jm_w S 1 64 0 [.int x0, .int x1] [] H Q = Q (some (.int ((-x1) &&& (((1 : Int32) <<< (x0 &&& 31)) - (1 : Int32))))) H := (js1 at64_0 rfl rfl rfl).trans ((js0 at64_1 rfl rfl rfl).trans ((jsci at64_2 rfl rfl).trans ((js1 at64_3 rfl rfl rfl).trans ((js0 at64_4 rfl rfl rfl).trans ((jsci at64_5 rfl rfl).trans ((js0 at64_6 rfl rfl rfl).trans ((js0 at64_7 rfl rfl rfl).trans (jsret_i at64_8 rfl))))))))
theorem en64 {S : Option (Nat × (Nat → Int32))} {H : jm_H} {Q : Option Value → jm_H → Prop} {x0 x1 : Int32} : jm_c S 64 [.int x0, .int x1] H Q = jm_w S 1 64 0 [.int x0, .int x1] [] H Q := rfl
theorem at69_0 : jm_at 69 0 = some (.iload_n 1) := by decide +kernel
theorem at69_1 : jm_at 69 1 = some (.iload_n 0) := by decide +kernel
theorem at69_2 : jm_at 69 2 = some (.invokestatic 17) := by decide +kernel
theorem rv69i_17 : jm_rv 69 (.invokestatic 17) = (1, 50, 0, 0) := by decide +kernel
theorem u69_0 {S : Option (Nat × (Nat → Int32))} {H : jm_H} {Q : Option Value → jm_H → Prop} {x0 x1 : Int32} : jm_w S 2 69 0 [.int x0, .int x1] [] H Q = jm_c S 50 [.int x0] H (fun v G => jm_w S 2 69 5 [.int x0, .int x1] (v.toList ++ [.int x1]) G Q) := (js1 at69_0 rfl rfl rfl).trans ((js1 at69_1 rfl rfl rfl).trans (jscall (H := H) (as := [.int x0]) (q := [.int x1]) at69_2 rfl rv69i_17 (jscut rfl rfl rfl (Nat.le_of_ble_eq_true rfl)) rfl (Nat.le_of_ble_eq_true rfl) rfl rfl))
theorem at69_5 : jm_at 69 5 = some (.if_icmp .ne 7) := by decide +kernel
theorem u69_5 {S : Option (Nat × (Nat → Int32))} {H : jm_H} {Q : Option Value → jm_H → Prop} {x0 x1 p0 p1 : Int32} : jm_w S 2 69 5 [.int x0, .int x1] [.int p1, .int p0] H Q = if ¬ p0 = p1 then jm_w S 2 69 12 [.int x0, .int x1] [] H Q else jm_w S 2 69 8 [.int x0, .int x1] [] H Q := jsif (P := ¬ p0 = p1) at69_5 rfl rfl
theorem at69_8 : jm_at 69 8 = some (.iconst 1) := by decide +kernel
theorem at69_9 : jm_at 69 9 = some (.goto 4) := by decide +kernel
theorem u69_8 {S : Option (Nat × (Nat → Int32))} {H : jm_H} {Q : Option Value → jm_H → Prop} {x0 x1 : Int32} : jm_w S 2 69 8 [.int x0, .int x1] [] H Q = jm_w S 2 69 13 [.int x0, .int x1] [.int (1 : Int32)] H Q := (jsci at69_8 rfl rfl).trans (js2 at69_9 rfl rfl)
theorem at69_12 : jm_at 69 12 = some (.iconst 0) := by decide +kernel
theorem u69_12 {S : Option (Nat × (Nat → Int32))} {H : jm_H} {Q : Option Value → jm_H → Prop} {x0 x1 : Int32} : jm_w S 2 69 12 [.int x0, .int x1] [] H Q = jm_w S 2 69 13 [.int x0, .int x1] [.int (0 : Int32)] H Q := jsci at69_12 rfl rfl
theorem at69_13 : jm_at 69 13 = some (.ireturn) := by decide +kernel
theorem u69_13 {S : Option (Nat × (Nat → Int32))} {H : jm_H} {Q : Option Value → jm_H → Prop} {x0 x1 p0 : Int32} (h0 : p0 = 0 ∨ p0 = 1) : jm_w S 2 69 13 [.int x0, .int x1] [.int p0] H Q = Q (some (.int p0)) H := jsret_z at69_13 rfl h0
theorem en69 {S : Option (Nat × (Nat → Int32))} {H : jm_H} {Q : Option Value → jm_H → Prop} {x0 x1 : Int32} : jm_c S 69 [.int x0, .int x1] H Q = jm_w S 2 69 0 [.int x0, .int x1] [] H Q := rfl
theorem at71_0 : jm_at 71 0 = some (.iload_n 1) := by decide +kernel
theorem at71_1 : jm_at 71 1 = some (.iload_n 0) := by decide +kernel
theorem at71_2 : jm_at 71 2 = some (.invokestatic 17) := by decide +kernel
theorem rv71i_17 : jm_rv 71 (.invokestatic 17) = (1, 50, 0, 0) := by decide +kernel
theorem u71_0 {S : Option (Nat × (Nat → Int32))} {H : jm_H} {Q : Option Value → jm_H → Prop} {x0 x1 : Int32} : jm_w S 2 71 0 [.int x0, .int x1] [] H Q = jm_c S 50 [.int x0] H (fun v G => jm_w S 2 71 5 [.int x0, .int x1] (v.toList ++ [.int x1]) G Q) := (js1 at71_0 rfl rfl rfl).trans ((js1 at71_1 rfl rfl rfl).trans (jscall (H := H) (as := [.int x0]) (q := [.int x1]) at71_2 rfl rv71i_17 (jscut rfl rfl rfl (Nat.le_of_ble_eq_true rfl)) rfl (Nat.le_of_ble_eq_true rfl) rfl rfl))
theorem at71_5 : jm_at 71 5 = some (.if_icmp .le 11) := by decide +kernel
theorem u71_5 {S : Option (Nat × (Nat → Int32))} {H : jm_H} {Q : Option Value → jm_H → Prop} {x0 x1 p0 p1 : Int32} : jm_w S 2 71 5 [.int x0, .int x1] [.int p1, .int p0] H Q = if p0 ≤ p1 then jm_w S 2 71 16 [.int x0, .int x1] [] H Q else jm_w S 2 71 8 [.int x0, .int x1] [] H Q := jsif (P := p0 ≤ p1) at71_5 rfl rfl
theorem at71_8 : jm_at 71 8 = some (.iload_n 0) := by decide +kernel
theorem at71_9 : jm_at 71 9 = some (.iload_n 1) := by decide +kernel
theorem at71_10 : jm_at 71 10 = some (.invokestatic 21) := by decide +kernel
theorem rv71i_21 : jm_rv 71 (.invokestatic 21) = (1, 64, 0, 0) := by decide +kernel
theorem u71_8 {S : Option (Nat × (Nat → Int32))} {H : jm_H} {Q : Option Value → jm_H → Prop} {x0 x1 : Int32} : jm_w S 2 71 8 [.int x0, .int x1] [] H Q = jm_c S 64 [.int x0, .int x1] H (fun v G => jm_w S 2 71 13 [.int x0, .int x1] (v.toList ++ []) G Q) := (js1 at71_8 rfl rfl rfl).trans ((js1 at71_9 rfl rfl rfl).trans (jscall (H := H) (as := [.int x0, .int x1]) (q := []) at71_10 rfl rv71i_21 (jscut rfl rfl rfl (Nat.le_of_ble_eq_true rfl)) rfl (Nat.le_of_ble_eq_true rfl) rfl rfl))
theorem at71_13 : jm_at 71 13 = some (.goto 4) := by decide +kernel
theorem u71_13 {S : Option (Nat × (Nat → Int32))} {H : jm_H} {Q : Option Value → jm_H → Prop} {x0 x1 p0 : Int32} : jm_w S 2 71 13 [.int x0, .int x1] [.int p0] H Q = jm_w S 2 71 17 [.int x0, .int x1] [.int p0] H Q := js2 at71_13 rfl rfl
theorem at71_16 : jm_at 71 16 = some (.iload_n 1) := by decide +kernel
theorem u71_16 {S : Option (Nat × (Nat → Int32))} {H : jm_H} {Q : Option Value → jm_H → Prop} {x0 x1 : Int32} : jm_w S 2 71 16 [.int x0, .int x1] [] H Q = jm_w S 2 71 17 [.int x0, .int x1] [.int x1] H Q := js1 at71_16 rfl rfl rfl
theorem at71_17 : jm_at 71 17 = some (.ireturn) := by decide +kernel
theorem u71_17 {S : Option (Nat × (Nat → Int32))} {H : jm_H} {Q : Option Value → jm_H → Prop} {x0 x1 p0 : Int32} : jm_w S 2 71 17 [.int x0, .int x1] [.int p0] H Q = Q (some (.int p0)) H := jsret_i at71_17 rfl
theorem en71 {S : Option (Nat × (Nat → Int32))} {H : jm_H} {Q : Option Value → jm_H → Prop} {x0 x1 : Int32} : jm_c S 71 [.int x0, .int x1] H Q = jm_w S 2 71 0 [.int x0, .int x1] [] H Q := rfl
theorem at72_0 : jm_at 72 0 = some (.iload_n 3) := by decide +kernel
theorem at72_1 : jm_at 72 1 = some (.iload_n 1) := by decide +kernel
theorem at72_2 : jm_at 72 2 = some (.iconst 2) := by decide +kernel
theorem at72_3 : jm_at 72 3 = some (.isub) := by decide +kernel
theorem at72_4 : jm_at 72 4 = some (.ishr) := by decide +kernel
theorem at72_5 : jm_at 72 5 = some (.iconst 1) := by decide +kernel
theorem at72_6 : jm_at 72 6 = some (.iand) := by decide +kernel
theorem at72_7 : jm_at 72 7 = some (.iconst 1) := by decide +kernel
theorem at72_8 : jm_at 72 8 = some (.if_icmp .ne 7) := by decide +kernel
theorem u72_0 {S : Option (Nat × (Nat → Int32))} {H : jm_H} {Q : Option Value → jm_H → Prop} {r0 : Nat} {x1 x2 x3 : Int32} : jm_w S 2 72 0 [.ref r0, .int x1, .int x2, .int x3, .null, .null, .null] [] H Q = if ¬ ((x3 >>> ((x1 - (2 : Int32)) &&& 31)) &&& (1 : Int32)) = (1 : Int32) then jm_w S 2 72 15 [.ref r0, .int x1, .int x2, .int x3, .null, .null, .null] [] H Q else jm_w S 2 72 11 [.ref r0, .int x1, .int x2, .int x3, .null, .null, .null] [] H Q := (js1 at72_0 rfl rfl rfl).trans ((js1 at72_1 rfl rfl rfl).trans ((jsci at72_2 rfl rfl).trans ((js0 at72_3 rfl rfl rfl).trans ((js0 at72_4 rfl rfl rfl).trans ((jsci at72_5 rfl rfl).trans ((js0 at72_6 rfl rfl rfl).trans ((jsci at72_7 rfl rfl).trans (jsif (P := ¬ ((x3 >>> ((x1 - (2 : Int32)) &&& 31)) &&& (1 : Int32)) = (1 : Int32)) at72_8 rfl rfl))))))))
theorem at72_11 : jm_at 72 11 = some (.iconst 1) := by decide +kernel
theorem at72_12 : jm_at 72 12 = some (.goto 4) := by decide +kernel
theorem u72_11 {S : Option (Nat × (Nat → Int32))} {H : jm_H} {Q : Option Value → jm_H → Prop} {r0 : Nat} {x1 x2 x3 : Int32} : jm_w S 2 72 11 [.ref r0, .int x1, .int x2, .int x3, .null, .null, .null] [] H Q = jm_w S 2 72 16 [.ref r0, .int x1, .int x2, .int x3, .null, .null, .null] [.int (1 : Int32)] H Q := (jsci at72_11 rfl rfl).trans (js2 at72_12 rfl rfl)
theorem at72_15 : jm_at 72 15 = some (.iconst 0) := by decide +kernel
theorem u72_15 {S : Option (Nat × (Nat → Int32))} {H : jm_H} {Q : Option Value → jm_H → Prop} {r0 : Nat} {x1 x2 x3 : Int32} : jm_w S 2 72 15 [.ref r0, .int x1, .int x2, .int x3, .null, .null, .null] [] H Q = jm_w S 2 72 16 [.ref r0, .int x1, .int x2, .int x3, .null, .null, .null] [.int (0 : Int32)] H Q := jsci at72_15 rfl rfl
theorem at72_16 : jm_at 72 16 = some (.istore 4) := by decide +kernel
theorem at72_18 : jm_at 72 18 = some (.aload_n 0) := by decide +kernel
theorem at72_19 : jm_at 72 19 = some (.iload_n 1) := by decide +kernel
theorem at72_20 : jm_at 72 20 = some (.iload_n 3) := by decide +kernel
theorem at72_21 : jm_at 72 21 = some (.invokestatic 25) := by decide +kernel
theorem rv72i_25 : jm_rv 72 (.invokestatic 25) = (1, 73, 0, 0) := by decide +kernel
theorem u72_16 {S : Option (Nat × (Nat → Int32))} {H : jm_H} {Q : Option Value → jm_H → Prop} {r0 : Nat} {x1 x2 x3 p0 : Int32} : jm_w S 2 72 16 [.ref r0, .int x1, .int x2, .int x3, .null, .null, .null] [.int p0] H Q = jm_c S 73 [.int x1, .int x3] H (fun v G => jm_w S 2 72 24 [.ref r0, .int x1, .int x2, .int x3, .int p0, .null, .null] (v.toList ++ [.ref r0]) G Q) := (js1 at72_16 rfl rfl rfl).trans ((js1 at72_18 rfl rfl rfl).trans ((js1 at72_19 rfl rfl rfl).trans ((js1 at72_20 rfl rfl rfl).trans (jscall (H := H) (as := [.int x1, .int x3]) (q := [.ref r0]) at72_21 rfl rv72i_25 (jscut rfl rfl rfl (Nat.le_of_ble_eq_true rfl)) rfl (Nat.le_of_ble_eq_true rfl) rfl rfl))))
theorem at72_24 : jm_at 72 24 = some (.putfield 28) := by decide +kernel
theorem rv72p_28 : jm_rv 72 (.putfield 28) = (0, 4, 0, 0) := by decide +kernel
theorem at72_27 : jm_at 72 27 = some (.aload_n 0) := by decide +kernel
theorem at72_28 : jm_at 72 28 = some (.iload 4) := by decide +kernel
theorem at72_30 : jm_at 72 30 = some (.ifCond .eq 12) := by decide +kernel
theorem u72_24 {S : Option (Nat × (Nat → Int32))} {H : jm_H} {Q : Option Value → jm_H → Prop} {r0 o0 : Nat} {x1 x2 x3 x4 p1 : Int32} (h0 : jm_tg H o0 = 5) : jm_w S 2 72 24 [.ref r0, .int x1, .int x2, .int x3, .int x4, .null, .null] [.int p1, .ref o0] H Q = if x4 = 0 then jm_w S 2 72 42 [.ref r0, .int x1, .int x2, .int x3, .int x4, .null, .null] [.ref r0] (jm_pI H o0 0 p1) Q else jm_w S 2 72 33 [.ref r0, .int x1, .int x2, .int x3, .int x4, .null, .null] [.ref r0] (jm_pI H o0 0 p1) Q := (jspI (H := H) at72_24 rv72p_28 rfl h0 rfl).trans ((js1 at72_27 rfl rfl rfl).trans ((js1 at72_28 rfl rfl rfl).trans (jsif (P := x4 = 0) at72_30 rfl rfl)))
theorem at72_33 : jm_at 72 33 = some (.aload_n 0) := by decide +kernel
theorem at72_34 : jm_at 72 34 = some (.getfield 28) := by decide +kernel
theorem rv72g_28 : jm_rv 72 (.getfield 28) = (0, 4, 0, 0) := by decide +kernel
theorem at72_37 : jm_at 72 37 = some (.iconst 1) := by decide +kernel
theorem at72_38 : jm_at 72 38 = some (.isub) := by decide +kernel
theorem at72_39 : jm_at 72 39 = some (.goto 8) := by decide +kernel
theorem u72_33 {S : Option (Nat × (Nat → Int32))} {H : jm_H} {Q : Option Value → jm_H → Prop} {r0 o0 : Nat} {x1 x2 x3 x4 : Int32} (h0 : jm_tg H r0 = 5) : jm_w S 2 72 33 [.ref r0, .int x1, .int x2, .int x3, .int x4, .null, .null] [.ref o0] H Q = jm_w S 2 72 47 [.ref r0, .int x1, .int x2, .int x3, .int x4, .null, .null] [.int ((jm_I H r0 0) - (1 : Int32)), .ref o0] H Q := (js1 at72_33 rfl rfl rfl).trans ((jsgI (H := H) at72_34 rv72g_28 (Or.inl rfl) h0 rfl).trans ((jsci at72_37 rfl rfl).trans ((js0 at72_38 rfl rfl rfl).trans (js2 at72_39 rfl rfl))))
theorem at72_42 : jm_at 72 42 = some (.aload_n 0) := by decide +kernel
theorem at72_43 : jm_at 72 43 = some (.getfield 28) := by decide +kernel
theorem at72_46 : jm_at 72 46 = some (.ineg) := by decide +kernel
theorem u72_42 {S : Option (Nat × (Nat → Int32))} {H : jm_H} {Q : Option Value → jm_H → Prop} {r0 o0 : Nat} {x1 x2 x3 x4 : Int32} (h0 : jm_tg H r0 = 5) : jm_w S 2 72 42 [.ref r0, .int x1, .int x2, .int x3, .int x4, .null, .null] [.ref o0] H Q = jm_w S 2 72 47 [.ref r0, .int x1, .int x2, .int x3, .int x4, .null, .null] [.int (-(jm_I H r0 0)), .ref o0] H Q := (js1 at72_42 rfl rfl rfl).trans ((jsgI (H := H) at72_43 rv72g_28 (Or.inl rfl) h0 rfl).trans (js0 at72_46 rfl rfl rfl))
theorem at72_47 : jm_at 72 47 = some (.putfield 32) := by decide +kernel
theorem rv72p_32 : jm_rv 72 (.putfield 32) = (0, 4, 1, 0) := by decide +kernel
theorem at72_50 : jm_at 72 50 = some (.iconst 0) := by decide +kernel
theorem at72_51 : jm_at 72 51 = some (.iload_n 1) := by decide +kernel
theorem at72_52 : jm_at 72 52 = some (.iconst 2) := by decide +kernel
theorem at72_53 : jm_at 72 53 = some (.isub) := by decide +kernel
theorem at72_54 : jm_at 72 54 = some (.aload_n 0) := by decide +kernel
theorem at72_55 : jm_at 72 55 = some (.getfield 28) := by decide +kernel
theorem at72_58 : jm_at 72 58 = some (.isub) := by decide +kernel
theorem at72_59 : jm_at 72 59 = some (.invokestatic 35) := by decide +kernel
theorem rv72i_35 : jm_rv 72 (.invokestatic 35) = (1, 74, 0, 0) := by decide +kernel
theorem u72_47 {S : Option (Nat × (Nat → Int32))} {H : jm_H} {Q : Option Value → jm_H → Prop} {r0 o0 : Nat} {x1 x2 x3 x4 p1 : Int32} (h0 : jm_tg H o0 = 5) (h1 : jm_tg H r0 = 5) : jm_w S 2 72 47 [.ref r0, .int x1, .int x2, .int x3, .int x4, .null, .null] [.int p1, .ref o0] H Q = jm_c S 74 [.int (0 : Int32), .int ((x1 - (2 : Int32)) - (jm_I (jm_pI H o0 1 p1) r0 0))] (jm_pI H o0 1 p1) (fun v G => jm_w S 2 72 62 [.ref r0, .int x1, .int x2, .int x3, .int x4, .null, .null] (v.toList ++ []) G Q) := (jspI (H := H) at72_47 rv72p_32 rfl h0 rfl).trans ((jsci at72_50 rfl rfl).trans ((js1 at72_51 rfl rfl rfl).trans ((jsci at72_52 rfl rfl).trans ((js0 at72_53 rfl rfl rfl).trans ((js1 at72_54 rfl rfl rfl).trans ((jsgI (H := (jm_pI H o0 1 p1)) at72_55 rv72g_28 (Or.inl rfl) h1 rfl).trans ((js0 at72_58 rfl rfl rfl).trans (jscall (H := (jm_pI H o0 1 p1)) (as := [.int (0 : Int32), .int ((x1 - (2 : Int32)) - (jm_I (jm_pI H o0 1 p1) r0 0))]) (q := []) at72_59 rfl rv72i_35 (jscut rfl rfl rfl (Nat.le_of_ble_eq_true rfl)) rfl (Nat.le_of_ble_eq_true rfl) rfl rfl))))))))
theorem at72_62 : jm_at 72 62 = some (.istore 5) := by decide +kernel
theorem at72_64 : jm_at 72 64 = some (.iload_n 3) := by decide +kernel
theorem at72_65 : jm_at 72 65 = some (.iconst 1) := by decide +kernel
theorem at72_66 : jm_at 72 66 = some (.iload 5) := by decide +kernel
theorem at72_68 : jm_at 72 68 = some (.ishl) := by decide +kernel
theorem at72_69 : jm_at 72 69 = some (.iconst 1) := by decide +kernel
theorem at72_70 : jm_at 72 70 = some (.isub) := by decide +kernel
theorem at72_71 : jm_at 72 71 = some (.iand) := by decide +kernel
theorem at72_72 : jm_at 72 72 = some (.istore 6) := by decide +kernel
theorem at72_74 : jm_at 72 74 = some (.aload_n 0) := by decide +kernel
theorem at72_75 : jm_at 72 75 = some (.iload 5) := by decide +kernel
theorem at72_77 : jm_at 72 77 = some (.iload_n 2) := by decide +kernel
theorem at72_78 : jm_at 72 78 = some (.if_icmp .lt 13) := by decide +kernel
theorem u72_62 {S : Option (Nat × (Nat → Int32))} {H : jm_H} {Q : Option Value → jm_H → Prop} {r0 : Nat} {x1 x2 x3 x4 p0 : Int32} : jm_w S 2 72 62 [.ref r0, .int x1, .int x2, .int x3, .int x4, .null, .null] [.int p0] H Q = if p0 < x2 then jm_w S 2 72 91 [.ref r0, .int x1, .int x2, .int x3, .int x4, .int p0, .int (x3 &&& (((1 : Int32) <<< (p0 &&& 31)) - (1 : Int32)))] [.ref r0] H Q else jm_w S 2 72 81 [.ref r0, .int x1, .int x2, .int x3, .int x4, .int p0, .int (x3 &&& (((1 : Int32) <<< (p0 &&& 31)) - (1 : Int32)))] [.ref r0] H Q := (js1 at72_62 rfl rfl rfl).trans ((js1 at72_64 rfl rfl rfl).trans ((jsci at72_65 rfl rfl).trans ((js1 at72_66 rfl rfl rfl).trans ((js0 at72_68 rfl rfl rfl).trans ((jsci at72_69 rfl rfl).trans ((js0 at72_70 rfl rfl rfl).trans ((js0 at72_71 rfl rfl rfl).trans ((js1 at72_72 rfl rfl rfl).trans ((js1 at72_74 rfl rfl rfl).trans ((js1 at72_75 rfl rfl rfl).trans ((js1 at72_77 rfl rfl rfl).trans (jsif (P := p0 < x2) at72_78 rfl rfl))))))))))))
theorem at72_81 : jm_at 72 81 = some (.iload 6) := by decide +kernel
theorem at72_83 : jm_at 72 83 = some (.iload 5) := by decide +kernel
theorem at72_85 : jm_at 72 85 = some (.iload_n 2) := by decide +kernel
theorem at72_86 : jm_at 72 86 = some (.isub) := by decide +kernel
theorem at72_87 : jm_at 72 87 = some (.ishr) := by decide +kernel
theorem at72_88 : jm_at 72 88 = some (.goto 10) := by decide +kernel
theorem u72_81 {S : Option (Nat × (Nat → Int32))} {H : jm_H} {Q : Option Value → jm_H → Prop} {r0 o0 : Nat} {x1 x2 x3 x4 x5 x6 : Int32} : jm_w S 2 72 81 [.ref r0, .int x1, .int x2, .int x3, .int x4, .int x5, .int x6] [.ref o0] H Q = jm_w S 2 72 98 [.ref r0, .int x1, .int x2, .int x3, .int x4, .int x5, .int x6] [.int (x6 >>> ((x5 - x2) &&& 31)), .ref o0] H Q := (js1 at72_81 rfl rfl rfl).trans ((js1 at72_83 rfl rfl rfl).trans ((js1 at72_85 rfl rfl rfl).trans ((js0 at72_86 rfl rfl rfl).trans ((js0 at72_87 rfl rfl rfl).trans (js2 at72_88 rfl rfl)))))
theorem at72_91 : jm_at 72 91 = some (.iload 6) := by decide +kernel
theorem at72_93 : jm_at 72 93 = some (.iload_n 2) := by decide +kernel
theorem at72_94 : jm_at 72 94 = some (.iload 5) := by decide +kernel
theorem at72_96 : jm_at 72 96 = some (.isub) := by decide +kernel
theorem at72_97 : jm_at 72 97 = some (.ishl) := by decide +kernel
theorem u72_91 {S : Option (Nat × (Nat → Int32))} {H : jm_H} {Q : Option Value → jm_H → Prop} {r0 o0 : Nat} {x1 x2 x3 x4 x5 x6 : Int32} : jm_w S 2 72 91 [.ref r0, .int x1, .int x2, .int x3, .int x4, .int x5, .int x6] [.ref o0] H Q = jm_w S 2 72 98 [.ref r0, .int x1, .int x2, .int x3, .int x4, .int x5, .int x6] [.int (x6 <<< ((x2 - x5) &&& 31)), .ref o0] H Q := (js1 at72_91 rfl rfl rfl).trans ((js1 at72_93 rfl rfl rfl).trans ((js1 at72_94 rfl rfl rfl).trans ((js0 at72_96 rfl rfl rfl).trans (js0 at72_97 rfl rfl rfl))))
theorem at72_98 : jm_at 72 98 = some (.putfield 40) := by decide +kernel
theorem rv72p_40 : jm_rv 72 (.putfield 40) = (0, 4, 2, 0) := by decide +kernel
theorem at72_101 : jm_at 72 101 = some (.aload_n 0) := by decide +kernel
theorem at72_102 : jm_at 72 102 = some (.iconst 0) := by decide +kernel
theorem at72_103 : jm_at 72 103 = some (.iload 5) := by decide +kernel
theorem at72_105 : jm_at 72 105 = some (.iload_n 2) := by decide +kernel
theorem at72_106 : jm_at 72 106 = some (.isub) := by decide +kernel
theorem at72_107 : jm_at 72 107 = some (.invokestatic 35) := by decide +kernel
theorem u72_98 {S : Option (Nat × (Nat → Int32))} {H : jm_H} {Q : Option Value → jm_H → Prop} {r0 o0 : Nat} {x1 x2 x3 x4 x5 x6 p1 : Int32} (h0 : jm_tg H o0 = 5) : jm_w S 2 72 98 [.ref r0, .int x1, .int x2, .int x3, .int x4, .int x5, .int x6] [.int p1, .ref o0] H Q = jm_c S 74 [.int (0 : Int32), .int (x5 - x2)] (jm_pI H o0 2 p1) (fun v G => jm_w S 2 72 110 [.ref r0, .int x1, .int x2, .int x3, .int x4, .int x5, .int x6] (v.toList ++ [.ref r0]) G Q) := (jspI (H := H) at72_98 rv72p_40 rfl h0 rfl).trans ((js1 at72_101 rfl rfl rfl).trans ((jsci at72_102 rfl rfl).trans ((js1 at72_103 rfl rfl rfl).trans ((js1 at72_105 rfl rfl rfl).trans ((js0 at72_106 rfl rfl rfl).trans (jscall (H := (jm_pI H o0 2 p1)) (as := [.int (0 : Int32), .int (x5 - x2)]) (q := [.ref r0]) at72_107 rfl rv72i_35 (jscut rfl rfl rfl (Nat.le_of_ble_eq_true rfl)) rfl (Nat.le_of_ble_eq_true rfl) rfl rfl))))))
theorem at72_110 : jm_at 72 110 = some (.putfield 43) := by decide +kernel
theorem rv72p_43 : jm_rv 72 (.putfield 43) = (0, 4, 3, 0) := by decide +kernel
theorem at72_113 : jm_at 72 113 = some (.aload_n 0) := by decide +kernel
theorem at72_114 : jm_at 72 114 = some (.iload_n 3) := by decide +kernel
theorem at72_115 : jm_at 72 115 = some (.iconst 1) := by decide +kernel
theorem at72_116 : jm_at 72 116 = some (.aload_n 0) := by decide +kernel
theorem at72_117 : jm_at 72 117 = some (.getfield 43) := by decide +kernel
theorem rv72g_43 : jm_rv 72 (.getfield 43) = (0, 4, 3, 0) := by decide +kernel
theorem at72_120 : jm_at 72 120 = some (.ishl) := by decide +kernel
theorem at72_121 : jm_at 72 121 = some (.iconst 1) := by decide +kernel
theorem at72_122 : jm_at 72 122 = some (.isub) := by decide +kernel
theorem at72_123 : jm_at 72 123 = some (.iand) := by decide +kernel
theorem at72_124 : jm_at 72 124 = some (.putfield 46) := by decide +kernel
theorem rv72p_46 : jm_rv 72 (.putfield 46) = (0, 4, 4, 0) := by decide +kernel
theorem at72_127 : jm_at 72 127 = some (.return_) := by decide +kernel
theorem u72_110 {S : Option (Nat × (Nat → Int32))} {H : jm_H} {Q : Option Value → jm_H → Prop} {r0 o0 : Nat} {x1 x2 x3 x4 x5 x6 p1 : Int32} (h0 : jm_tg H o0 = 5) (h1 : jm_tg H r0 = 5) : jm_w S 2 72 110 [.ref r0, .int x1, .int x2, .int x3, .int x4, .int x5, .int x6] [.int p1, .ref o0] H Q = Q none (jm_pI (jm_pI H o0 3 p1) r0 4 (x3 &&& (((1 : Int32) <<< ((jm_I (jm_pI H o0 3 p1) r0 3) &&& 31)) - (1 : Int32)))) := (jspI (H := H) at72_110 rv72p_43 rfl h0 rfl).trans ((js1 at72_113 rfl rfl rfl).trans ((js1 at72_114 rfl rfl rfl).trans ((jsci at72_115 rfl rfl).trans ((js1 at72_116 rfl rfl rfl).trans ((jsgI (H := (jm_pI H o0 3 p1)) at72_117 rv72g_43 (Or.inl rfl) h1 rfl).trans ((js0 at72_120 rfl rfl rfl).trans ((jsci at72_121 rfl rfl).trans ((js0 at72_122 rfl rfl rfl).trans ((js0 at72_123 rfl rfl rfl).trans ((jspI (H := (jm_pI H o0 3 p1)) at72_124 rv72p_46 rfl h1 rfl).trans (jsret_v at72_127 rfl)))))))))))
theorem en72 {S : Option (Nat × (Nat → Int32))} {H : jm_H} {Q : Option Value → jm_H → Prop} {r0 : Nat} {x1 x2 x3 : Int32} : jm_c S 72 [.ref r0, .int x1, .int x2, .int x3] H Q = jm_w S 2 72 0 [.ref r0, .int x1, .int x2, .int x3, .null, .null, .null] [] H Q := rfl
theorem at73_0 : jm_at 73 0 = some (.iconst 0) := by decide +kernel
theorem at73_1 : jm_at 73 1 = some (.istore_n 2) := by decide +kernel
theorem at73_2 : jm_at 73 2 = some (.iload_n 1) := by decide +kernel
theorem at73_3 : jm_at 73 3 = some (.iload_n 0) := by decide +kernel
theorem at73_4 : jm_at 73 4 = some (.iconst 2) := by decide +kernel
theorem at73_5 : jm_at 73 5 = some (.isub) := by decide +kernel
theorem at73_6 : jm_at 73 6 = some (.ishr) := by decide +kernel
theorem at73_7 : jm_at 73 7 = some (.iconst 1) := by decide +kernel
theorem at73_8 : jm_at 73 8 = some (.iand) := by decide +kernel
theorem at73_9 : jm_at 73 9 = some (.istore_n 3) := by decide +kernel
theorem at73_10 : jm_at 73 10 = some (.iload_n 0) := by decide +kernel
theorem at73_11 : jm_at 73 11 = some (.iconst 2) := by decide +kernel
theorem at73_12 : jm_at 73 12 = some (.isub) := by decide +kernel
theorem at73_13 : jm_at 73 13 = some (.istore 4) := by decide +kernel
theorem u73_0 {S : Option (Nat × (Nat → Int32))} {H : jm_H} {Q : Option Value → jm_H → Prop} {x0 x1 : Int32} : jm_w S 1 73 0 [.int x0, .int x1, .null, .null, .null] [] H Q = jm_w S 1 73 15 [.int x0, .int x1, .int (0 : Int32), .int ((x1 >>> ((x0 - (2 : Int32)) &&& 31)) &&& (1 : Int32)), .int (x0 - (2 : Int32))] [] H Q := (jsci at73_0 rfl rfl).trans ((js1 at73_1 rfl rfl rfl).trans ((js1 at73_2 rfl rfl rfl).trans ((js1 at73_3 rfl rfl rfl).trans ((jsci at73_4 rfl rfl).trans ((js0 at73_5 rfl rfl rfl).trans ((js0 at73_6 rfl rfl rfl).trans ((jsci at73_7 rfl rfl).trans ((js0 at73_8 rfl rfl rfl).trans ((js1 at73_9 rfl rfl rfl).trans ((js1 at73_10 rfl rfl rfl).trans ((jsci at73_11 rfl rfl).trans ((js0 at73_12 rfl rfl rfl).trans (js1 at73_13 rfl rfl rfl)))))))))))))
theorem at73_15 : jm_at 73 15 = some (.iload 4) := by decide +kernel
theorem at73_17 : jm_at 73 17 = some (.ifCond .lt 22) := by decide +kernel
theorem u73_15 {S : Option (Nat × (Nat → Int32))} {H : jm_H} {Q : Option Value → jm_H → Prop} {x0 x1 x2 x3 x4 : Int32} : jm_w S 1 73 15 [.int x0, .int x1, .int x2, .int x3, .int x4] [] H Q = if x4 < 0 then jm_w S 1 73 39 [.int x0, .int x1, .int x2, .int x3, .int x4] [] H Q else jm_w S 1 73 20 [.int x0, .int x1, .int x2, .int x3, .int x4] [] H Q := (js1 at73_15 rfl rfl rfl).trans (jsif (P := x4 < 0) at73_17 rfl rfl)
theorem at73_20 : jm_at 73 20 = some (.iload_n 1) := by decide +kernel
theorem at73_21 : jm_at 73 21 = some (.iload 4) := by decide +kernel
theorem at73_23 : jm_at 73 23 = some (.ishr) := by decide +kernel
theorem at73_24 : jm_at 73 24 = some (.iconst 1) := by decide +kernel
theorem at73_25 : jm_at 73 25 = some (.iand) := by decide +kernel
theorem at73_26 : jm_at 73 26 = some (.iload_n 3) := by decide +kernel
theorem at73_27 : jm_at 73 27 = some (.if_icmp .ne 12) := by decide +kernel
theorem u73_20 {S : Option (Nat × (Nat → Int32))} {H : jm_H} {Q : Option Value → jm_H → Prop} {x0 x1 x2 x3 x4 : Int32} : jm_w S 1 73 20 [.int x0, .int x1, .int x2, .int x3, .int x4] [] H Q = if ¬ ((x1 >>> (x4 &&& 31)) &&& (1 : Int32)) = x3 then jm_w S 1 73 39 [.int x0, .int x1, .int x2, .int x3, .int x4] [] H Q else jm_w S 1 73 30 [.int x0, .int x1, .int x2, .int x3, .int x4] [] H Q := (js1 at73_20 rfl rfl rfl).trans ((js1 at73_21 rfl rfl rfl).trans ((js0 at73_23 rfl rfl rfl).trans ((jsci at73_24 rfl rfl).trans ((js0 at73_25 rfl rfl rfl).trans ((js1 at73_26 rfl rfl rfl).trans (jsif (P := ¬ ((x1 >>> (x4 &&& 31)) &&& (1 : Int32)) = x3) at73_27 rfl rfl))))))
theorem at73_30 : jm_at 73 30 = some (.iinc 2 1) := by decide +kernel
theorem at73_33 : jm_at 73 33 = some (.iinc 4 (-1)) := by decide +kernel
theorem at73_36 : jm_at 73 36 = some (.goto (-21)) := by decide +kernel
theorem u73_30 {S : Option (Nat × (Nat → Int32))} {H : jm_H} {Q : Option Value → jm_H → Prop} {x0 x1 x2 x3 x4 : Int32} : jm_w S 1 73 30 [.int x0, .int x1, .int x2, .int x3, .int x4] [] H Q = jm_w S 1 73 15 [.int x0, .int x1, .int (x2 + 1), .int x3, .int (x4 + (-1))] [] H Q := (jsinc at73_30 rfl rfl rfl).trans ((jsinc at73_33 rfl rfl rfl).trans (js2 at73_36 rfl rfl))
theorem at73_39 : jm_at 73 39 = some (.iload_n 2) := by decide +kernel
theorem at73_40 : jm_at 73 40 = some (.ireturn) := by decide +kernel
theorem u73_39 {S : Option (Nat × (Nat → Int32))} {H : jm_H} {Q : Option Value → jm_H → Prop} {x0 x1 x2 x3 x4 : Int32} : jm_w S 1 73 39 [.int x0, .int x1, .int x2, .int x3, .int x4] [] H Q = Q (some (.int x2)) H := (js1 at73_39 rfl rfl rfl).trans (jsret_i at73_40 rfl)
theorem en73 {S : Option (Nat × (Nat → Int32))} {H : jm_H} {Q : Option Value → jm_H → Prop} {x0 x1 : Int32} : jm_c S 73 [.int x0, .int x1] H Q = jm_w S 1 73 0 [.int x0, .int x1, .null, .null, .null] [] H Q := rfl
theorem at93_0 : jm_at 93 0 = some (.iload_n 0) := by decide +kernel
theorem at93_1 : jm_at 93 1 = some (.iconst 3) := by decide +kernel
theorem at93_2 : jm_at 93 2 = some (.if_icmp .lt 22) := by decide +kernel
theorem u93_0 {S : Option (Nat × (Nat → Int32))} {H : jm_H} {Q : Option Value → jm_H → Prop} {x0 x1 : Int32} : jm_w S 1 93 0 [.int x0, .int x1] [] H Q = if x0 < (3 : Int32) then jm_w S 1 93 24 [.int x0, .int x1] [] H Q else jm_w S 1 93 5 [.int x0, .int x1] [] H Q := (js1 at93_0 rfl rfl rfl).trans ((jsci at93_1 rfl rfl).trans (jsif (P := x0 < (3 : Int32)) at93_2 rfl rfl))
theorem at93_5 : jm_at 93 5 = some (.iload_n 0) := by decide +kernel
theorem at93_6 : jm_at 93 6 = some (.bipush 12) := by decide +kernel
theorem at93_8 : jm_at 93 8 = some (.if_icmp .gt 16) := by decide +kernel
theorem u93_5 {S : Option (Nat × (Nat → Int32))} {H : jm_H} {Q : Option Value → jm_H → Prop} {x0 x1 : Int32} : jm_w S 1 93 5 [.int x0, .int x1] [] H Q = if (12 : Int32) < x0 then jm_w S 1 93 24 [.int x0, .int x1] [] H Q else jm_w S 1 93 11 [.int x0, .int x1] [] H Q := (js1 at93_5 rfl rfl rfl).trans ((jscb at93_6 rfl rfl).trans (jsif (P := (12 : Int32) < x0) at93_8 rfl rfl))
theorem at93_11 : jm_at 93 11 = some (.iload_n 1) := by decide +kernel
theorem at93_12 : jm_at 93 12 = some (.ifCond .lt 12) := by decide +kernel
theorem u93_11 {S : Option (Nat × (Nat → Int32))} {H : jm_H} {Q : Option Value → jm_H → Prop} {x0 x1 : Int32} : jm_w S 1 93 11 [.int x0, .int x1] [] H Q = if x1 < 0 then jm_w S 1 93 24 [.int x0, .int x1] [] H Q else jm_w S 1 93 15 [.int x0, .int x1] [] H Q := (js1 at93_11 rfl rfl rfl).trans (jsif (P := x1 < 0) at93_12 rfl rfl)
theorem at93_15 : jm_at 93 15 = some (.iload_n 1) := by decide +kernel
theorem at93_16 : jm_at 93 16 = some (.iconst 2) := by decide +kernel
theorem at93_17 : jm_at 93 17 = some (.if_icmp .gt 7) := by decide +kernel
theorem u93_15 {S : Option (Nat × (Nat → Int32))} {H : jm_H} {Q : Option Value → jm_H → Prop} {x0 x1 : Int32} : jm_w S 1 93 15 [.int x0, .int x1] [] H Q = if (2 : Int32) < x1 then jm_w S 1 93 24 [.int x0, .int x1] [] H Q else jm_w S 1 93 20 [.int x0, .int x1] [] H Q := (js1 at93_15 rfl rfl rfl).trans ((jsci at93_16 rfl rfl).trans (jsif (P := (2 : Int32) < x1) at93_17 rfl rfl))
theorem at93_20 : jm_at 93 20 = some (.iconst 1) := by decide +kernel
theorem at93_21 : jm_at 93 21 = some (.goto 4) := by decide +kernel
theorem u93_20 {S : Option (Nat × (Nat → Int32))} {H : jm_H} {Q : Option Value → jm_H → Prop} {x0 x1 : Int32} : jm_w S 1 93 20 [.int x0, .int x1] [] H Q = jm_w S 1 93 25 [.int x0, .int x1] [.int (1 : Int32)] H Q := (jsci at93_20 rfl rfl).trans (js2 at93_21 rfl rfl)
theorem at93_24 : jm_at 93 24 = some (.iconst 0) := by decide +kernel
theorem u93_24 {S : Option (Nat × (Nat → Int32))} {H : jm_H} {Q : Option Value → jm_H → Prop} {x0 x1 : Int32} : jm_w S 1 93 24 [.int x0, .int x1] [] H Q = jm_w S 1 93 25 [.int x0, .int x1] [.int (0 : Int32)] H Q := jsci at93_24 rfl rfl
theorem at93_25 : jm_at 93 25 = some (.ireturn) := by decide +kernel
theorem u93_25 {S : Option (Nat × (Nat → Int32))} {H : jm_H} {Q : Option Value → jm_H → Prop} {x0 x1 p0 : Int32} (h0 : p0 = 0 ∨ p0 = 1) : jm_w S 1 93 25 [.int x0, .int x1] [.int p0] H Q = Q (some (.int p0)) H := jsret_z at93_25 rfl h0
theorem en93 {S : Option (Nat × (Nat → Int32))} {H : jm_H} {Q : Option Value → jm_H → Prop} {x0 x1 : Int32} : jm_c S 93 [.int x0, .int x1] H Q = jm_w S 1 93 0 [.int x0, .int x1] [] H Q := rfl
theorem at99_0 : jm_at 99 0 = some (.iload_n 0) := by decide +kernel
theorem at99_1 : jm_at 99 1 = some (.iload_n 1) := by decide +kernel
theorem at99_2 : jm_at 99 2 = some (.invokestatic 7) := by decide +kernel
theorem rv99i_7 : jm_rv 99 (.invokestatic 7) = (1, 93, 0, 0) := by decide +kernel
theorem u99_0 {S : Option (Nat × (Nat → Int32))} {H : jm_H} {Q : Option Value → jm_H → Prop} {x0 x1 x2 : Int32} : jm_w S 2 99 0 [.int x0, .int x1, .int x2] [] H Q = jm_c S 93 [.int x0, .int x1] H (fun v G => jm_w S 2 99 5 [.int x0, .int x1, .int x2] (v.toList ++ []) G Q) := (js1 at99_0 rfl rfl rfl).trans ((js1 at99_1 rfl rfl rfl).trans (jscall (H := H) (as := [.int x0, .int x1]) (q := []) at99_2 rfl rv99i_7 (jscut rfl rfl rfl (Nat.le_of_ble_eq_true rfl)) rfl (Nat.le_of_ble_eq_true rfl) rfl rfl))
theorem at99_5 : jm_at 99 5 = some (.ifCond .eq 18) := by decide +kernel
theorem u99_5 {S : Option (Nat × (Nat → Int32))} {H : jm_H} {Q : Option Value → jm_H → Prop} {x0 x1 x2 p0 : Int32} : jm_w S 2 99 5 [.int x0, .int x1, .int x2] [.int p0] H Q = if p0 = 0 then jm_w S 2 99 23 [.int x0, .int x1, .int x2] [] H Q else jm_w S 2 99 8 [.int x0, .int x1, .int x2] [] H Q := jsif (P := p0 = 0) at99_5 rfl rfl
theorem at99_8 : jm_at 99 8 = some (.iload_n 2) := by decide +kernel
theorem at99_9 : jm_at 99 9 = some (.ifCond .lt 14) := by decide +kernel
theorem u99_8 {S : Option (Nat × (Nat → Int32))} {H : jm_H} {Q : Option Value → jm_H → Prop} {x0 x1 x2 : Int32} : jm_w S 2 99 8 [.int x0, .int x1, .int x2] [] H Q = if x2 < 0 then jm_w S 2 99 23 [.int x0, .int x1, .int x2] [] H Q else jm_w S 2 99 12 [.int x0, .int x1, .int x2] [] H Q := (js1 at99_8 rfl rfl rfl).trans (jsif (P := x2 < 0) at99_9 rfl rfl)
theorem at99_12 : jm_at 99 12 = some (.iload_n 2) := by decide +kernel
theorem at99_13 : jm_at 99 13 = some (.iconst 1) := by decide +kernel
theorem at99_14 : jm_at 99 14 = some (.iload_n 0) := by decide +kernel
theorem at99_15 : jm_at 99 15 = some (.ishl) := by decide +kernel
theorem at99_16 : jm_at 99 16 = some (.if_icmp .ge 7) := by decide +kernel
theorem u99_12 {S : Option (Nat × (Nat → Int32))} {H : jm_H} {Q : Option Value → jm_H → Prop} {x0 x1 x2 : Int32} : jm_w S 2 99 12 [.int x0, .int x1, .int x2] [] H Q = if ((1 : Int32) <<< (x0 &&& 31)) ≤ x2 then jm_w S 2 99 23 [.int x0, .int x1, .int x2] [] H Q else jm_w S 2 99 19 [.int x0, .int x1, .int x2] [] H Q := (js1 at99_12 rfl rfl rfl).trans ((jsci at99_13 rfl rfl).trans ((js1 at99_14 rfl rfl rfl).trans ((js0 at99_15 rfl rfl rfl).trans (jsif (P := ((1 : Int32) <<< (x0 &&& 31)) ≤ x2) at99_16 rfl rfl))))
theorem at99_19 : jm_at 99 19 = some (.iconst 1) := by decide +kernel
theorem at99_20 : jm_at 99 20 = some (.goto 4) := by decide +kernel
theorem u99_19 {S : Option (Nat × (Nat → Int32))} {H : jm_H} {Q : Option Value → jm_H → Prop} {x0 x1 x2 : Int32} : jm_w S 2 99 19 [.int x0, .int x1, .int x2] [] H Q = jm_w S 2 99 24 [.int x0, .int x1, .int x2] [.int (1 : Int32)] H Q := (jsci at99_19 rfl rfl).trans (js2 at99_20 rfl rfl)
theorem at99_23 : jm_at 99 23 = some (.iconst 0) := by decide +kernel
theorem u99_23 {S : Option (Nat × (Nat → Int32))} {H : jm_H} {Q : Option Value → jm_H → Prop} {x0 x1 x2 : Int32} : jm_w S 2 99 23 [.int x0, .int x1, .int x2] [] H Q = jm_w S 2 99 24 [.int x0, .int x1, .int x2] [.int (0 : Int32)] H Q := jsci at99_23 rfl rfl
theorem at99_24 : jm_at 99 24 = some (.ireturn) := by decide +kernel
theorem u99_24 {S : Option (Nat × (Nat → Int32))} {H : jm_H} {Q : Option Value → jm_H → Prop} {x0 x1 x2 p0 : Int32} (h0 : p0 = 0 ∨ p0 = 1) : jm_w S 2 99 24 [.int x0, .int x1, .int x2] [.int p0] H Q = Q (some (.int p0)) H := jsret_z at99_24 rfl h0
theorem en99 {S : Option (Nat × (Nat → Int32))} {H : jm_H} {Q : Option Value → jm_H → Prop} {x0 x1 x2 : Int32} : jm_c S 99 [.int x0, .int x1, .int x2] H Q = jm_w S 2 99 0 [.int x0, .int x1, .int x2] [] H Q := rfl
theorem at108_0 : jm_at 108 0 = some (.iload_n 1) := by decide +kernel
theorem at108_1 : jm_at 108 1 = some (.iload_n 0) := by decide +kernel
theorem at108_2 : jm_at 108 2 = some (.invokestatic 17) := by decide +kernel
theorem rv108i_17 : jm_rv 108 (.invokestatic 17) = (1, 50, 0, 0) := by decide +kernel
theorem u108_0 {S : Option (Nat × (Nat → Int32))} {H : jm_H} {Q : Option Value → jm_H → Prop} {x0 x1 : Int32} : jm_w S 2 108 0 [.int x0, .int x1] [] H Q = jm_c S 50 [.int x0] H (fun v G => jm_w S 2 108 5 [.int x0, .int x1] (v.toList ++ [.int x1]) G Q) := (js1 at108_0 rfl rfl rfl).trans ((js1 at108_1 rfl rfl rfl).trans (jscall (H := H) (as := [.int x0]) (q := [.int x1]) at108_2 rfl rv108i_17 (jscut rfl rfl rfl (Nat.le_of_ble_eq_true rfl)) rfl (Nat.le_of_ble_eq_true rfl) rfl rfl))
theorem at108_5 : jm_at 108 5 = some (.if_icmp .lt 11) := by decide +kernel
theorem u108_5 {S : Option (Nat × (Nat → Int32))} {H : jm_H} {Q : Option Value → jm_H → Prop} {x0 x1 p0 p1 : Int32} : jm_w S 2 108 5 [.int x0, .int x1] [.int p1, .int p0] H Q = if p0 < p1 then jm_w S 2 108 16 [.int x0, .int x1] [] H Q else jm_w S 2 108 8 [.int x0, .int x1] [] H Q := jsif (P := p0 < p1) at108_5 rfl rfl
theorem at108_8 : jm_at 108 8 = some (.iload_n 1) := by decide +kernel
theorem at108_9 : jm_at 108 9 = some (.iconst 1) := by decide +kernel
theorem at108_10 : jm_at 108 10 = some (.iload_n 0) := by decide +kernel
theorem at108_11 : jm_at 108 11 = some (.ishl) := by decide +kernel
theorem at108_12 : jm_at 108 12 = some (.isub) := by decide +kernel
theorem at108_13 : jm_at 108 13 = some (.goto 4) := by decide +kernel
theorem u108_8 {S : Option (Nat × (Nat → Int32))} {H : jm_H} {Q : Option Value → jm_H → Prop} {x0 x1 : Int32} : jm_w S 2 108 8 [.int x0, .int x1] [] H Q = jm_w S 2 108 17 [.int x0, .int x1] [.int (x1 - ((1 : Int32) <<< (x0 &&& 31)))] H Q := (js1 at108_8 rfl rfl rfl).trans ((jsci at108_9 rfl rfl).trans ((js1 at108_10 rfl rfl rfl).trans ((js0 at108_11 rfl rfl rfl).trans ((js0 at108_12 rfl rfl rfl).trans (js2 at108_13 rfl rfl)))))
theorem at108_16 : jm_at 108 16 = some (.iload_n 1) := by decide +kernel
theorem u108_16 {S : Option (Nat × (Nat → Int32))} {H : jm_H} {Q : Option Value → jm_H → Prop} {x0 x1 : Int32} : jm_w S 2 108 16 [.int x0, .int x1] [] H Q = jm_w S 2 108 17 [.int x0, .int x1] [.int x1] H Q := js1 at108_16 rfl rfl rfl
theorem at108_17 : jm_at 108 17 = some (.ireturn) := by decide +kernel
theorem u108_17 {S : Option (Nat × (Nat → Int32))} {H : jm_H} {Q : Option Value → jm_H → Prop} {x0 x1 p0 : Int32} : jm_w S 2 108 17 [.int x0, .int x1] [.int p0] H Q = Q (some (.int p0)) H := jsret_i at108_17 rfl
theorem en108 {S : Option (Nat × (Nat → Int32))} {H : jm_H} {Q : Option Value → jm_H → Prop} {x0 x1 : Int32} : jm_c S 108 [.int x0, .int x1] H Q = jm_w S 2 108 0 [.int x0, .int x1] [] H Q := rfl
theorem at111_0 : jm_at 111 0 = some (.iload_n 1) := by decide +kernel
theorem at111_1 : jm_at 111 1 = some (.iconst 1) := by decide +kernel
theorem at111_2 : jm_at 111 2 = some (.iadd) := by decide +kernel
theorem at111_3 : jm_at 111 3 = some (.iconst 1) := by decide +kernel
theorem at111_4 : jm_at 111 4 = some (.iload_n 0) := by decide +kernel
theorem at111_5 : jm_at 111 5 = some (.ishl) := by decide +kernel
theorem at111_6 : jm_at 111 6 = some (.iconst 1) := by decide +kernel
theorem at111_7 : jm_at 111 7 = some (.isub) := by decide +kernel
theorem at111_8 : jm_at 111 8 = some (.iand) := by decide +kernel
theorem at111_9 : jm_at 111 9 = some (.ireturn) := by decide +kernel
theorem u111_0 {S : Option (Nat × (Nat → Int32))} {H : jm_H} {Q : Option Value → jm_H → Prop} {x0 x1 : Int32} : jm_w S 1 111 0 [.int x0, .int x1] [] H Q = Q (some (.int ((x1 + (1 : Int32)) &&& (((1 : Int32) <<< (x0 &&& 31)) - (1 : Int32))))) H := (js1 at111_0 rfl rfl rfl).trans ((jsci at111_1 rfl rfl).trans ((js0 at111_2 rfl rfl rfl).trans ((jsci at111_3 rfl rfl).trans ((js1 at111_4 rfl rfl rfl).trans ((js0 at111_5 rfl rfl rfl).trans ((jsci at111_6 rfl rfl).trans ((js0 at111_7 rfl rfl rfl).trans ((js0 at111_8 rfl rfl rfl).trans (jsret_i at111_9 rfl)))))))))
theorem en111 {S : Option (Nat × (Nat → Int32))} {H : jm_H} {Q : Option Value → jm_H → Prop} {x0 x1 : Int32} : jm_c S 111 [.int x0, .int x1] H Q = jm_w S 1 111 0 [.int x0, .int x1] [] H Q := rfl
theorem at112_0 : jm_at 112 0 = some (.iload_n 1) := by decide +kernel
theorem at112_1 : jm_at 112 1 = some (.iconst 1) := by decide +kernel
theorem at112_2 : jm_at 112 2 = some (.isub) := by decide +kernel
theorem at112_3 : jm_at 112 3 = some (.iconst 1) := by decide +kernel
theorem at112_4 : jm_at 112 4 = some (.iload_n 0) := by decide +kernel
theorem at112_5 : jm_at 112 5 = some (.ishl) := by decide +kernel
theorem at112_6 : jm_at 112 6 = some (.iconst 1) := by decide +kernel
theorem at112_7 : jm_at 112 7 = some (.isub) := by decide +kernel
theorem at112_8 : jm_at 112 8 = some (.iand) := by decide +kernel
theorem at112_9 : jm_at 112 9 = some (.ireturn) := by decide +kernel
theorem u112_0 {S : Option (Nat × (Nat → Int32))} {H : jm_H} {Q : Option Value → jm_H → Prop} {x0 x1 : Int32} : jm_w S 1 112 0 [.int x0, .int x1] [] H Q = Q (some (.int ((x1 - (1 : Int32)) &&& (((1 : Int32) <<< (x0 &&& 31)) - (1 : Int32))))) H := (js1 at112_0 rfl rfl rfl).trans ((jsci at112_1 rfl rfl).trans ((js0 at112_2 rfl rfl rfl).trans ((jsci at112_3 rfl rfl).trans ((js1 at112_4 rfl rfl rfl).trans ((js0 at112_5 rfl rfl rfl).trans ((jsci at112_6 rfl rfl).trans ((js0 at112_7 rfl rfl rfl).trans ((js0 at112_8 rfl rfl rfl).trans (jsret_i at112_9 rfl)))))))))
theorem en112 {S : Option (Nat × (Nat → Int32))} {H : jm_H} {Q : Option Value → jm_H → Prop} {x0 x1 : Int32} : jm_c S 112 [.int x0, .int x1] H Q = jm_w S 1 112 0 [.int x0, .int x1] [] H Q := rfl
theorem at115_0 : jm_at 115 0 = some (.iload_n 0) := by decide +kernel
theorem at115_1 : jm_at 115 1 = some (.iload_n 1) := by decide +kernel
theorem at115_2 : jm_at 115 2 = some (.iload_n 2) := by decide +kernel
theorem at115_3 : jm_at 115 3 = some (.invokestatic 13) := by decide +kernel
theorem rv115i_13 : jm_rv 115 (.invokestatic 13) = (1, 99, 0, 0) := by decide +kernel
theorem u115_0 {S : Option (Nat × (Nat → Int32))} {H : jm_H} {Q : Option Value → jm_H → Prop} {x0 x1 x2 x3 : Int32} : jm_w S 3 115 0 [.int x0, .int x1, .int x2, .int x3] [] H Q = jm_c S 99 [.int x0, .int x1, .int x2] H (fun v G => jm_w S 3 115 6 [.int x0, .int x1, .int x2, .int x3] (v.toList ++ []) G Q) := (js1 at115_0 rfl rfl rfl).trans ((js1 at115_1 rfl rfl rfl).trans ((js1 at115_2 rfl rfl rfl).trans (jscall (H := H) (as := [.int x0, .int x1, .int x2]) (q := []) at115_3 rfl rv115i_13 (jscut rfl rfl rfl (Nat.le_of_ble_eq_true rfl)) rfl (Nat.le_of_ble_eq_true rfl) rfl rfl)))
theorem at115_6 : jm_at 115 6 = some (.ifCond .eq 16) := by decide +kernel
theorem u115_6 {S : Option (Nat × (Nat → Int32))} {H : jm_H} {Q : Option Value → jm_H → Prop} {x0 x1 x2 x3 p0 : Int32} : jm_w S 3 115 6 [.int x0, .int x1, .int x2, .int x3] [.int p0] H Q = if p0 = 0 then jm_w S 3 115 22 [.int x0, .int x1, .int x2, .int x3] [] H Q else jm_w S 3 115 9 [.int x0, .int x1, .int x2, .int x3] [] H Q := jsif (P := p0 = 0) at115_6 rfl rfl
theorem at115_9 : jm_at 115 9 = some (.iload_n 0) := by decide +kernel
theorem at115_10 : jm_at 115 10 = some (.iload_n 1) := by decide +kernel
theorem at115_11 : jm_at 115 11 = some (.iload_n 3) := by decide +kernel
theorem at115_12 : jm_at 115 12 = some (.invokestatic 13) := by decide +kernel
theorem u115_9 {S : Option (Nat × (Nat → Int32))} {H : jm_H} {Q : Option Value → jm_H → Prop} {x0 x1 x2 x3 : Int32} : jm_w S 3 115 9 [.int x0, .int x1, .int x2, .int x3] [] H Q = jm_c S 99 [.int x0, .int x1, .int x3] H (fun v G => jm_w S 3 115 15 [.int x0, .int x1, .int x2, .int x3] (v.toList ++ []) G Q) := (js1 at115_9 rfl rfl rfl).trans ((js1 at115_10 rfl rfl rfl).trans ((js1 at115_11 rfl rfl rfl).trans (jscall (H := H) (as := [.int x0, .int x1, .int x3]) (q := []) at115_12 rfl rv115i_13 (jscut rfl rfl rfl (Nat.le_of_ble_eq_true rfl)) rfl (Nat.le_of_ble_eq_true rfl) rfl rfl)))
theorem at115_15 : jm_at 115 15 = some (.ifCond .eq 7) := by decide +kernel
theorem u115_15 {S : Option (Nat × (Nat → Int32))} {H : jm_H} {Q : Option Value → jm_H → Prop} {x0 x1 x2 x3 p0 : Int32} : jm_w S 3 115 15 [.int x0, .int x1, .int x2, .int x3] [.int p0] H Q = if p0 = 0 then jm_w S 3 115 22 [.int x0, .int x1, .int x2, .int x3] [] H Q else jm_w S 3 115 18 [.int x0, .int x1, .int x2, .int x3] [] H Q := jsif (P := p0 = 0) at115_15 rfl rfl
theorem at115_18 : jm_at 115 18 = some (.iconst 1) := by decide +kernel
theorem at115_19 : jm_at 115 19 = some (.goto 4) := by decide +kernel
theorem u115_18 {S : Option (Nat × (Nat → Int32))} {H : jm_H} {Q : Option Value → jm_H → Prop} {x0 x1 x2 x3 : Int32} : jm_w S 3 115 18 [.int x0, .int x1, .int x2, .int x3] [] H Q = jm_w S 3 115 23 [.int x0, .int x1, .int x2, .int x3] [.int (1 : Int32)] H Q := (jsci at115_18 rfl rfl).trans (js2 at115_19 rfl rfl)
theorem at115_22 : jm_at 115 22 = some (.iconst 0) := by decide +kernel
theorem u115_22 {S : Option (Nat × (Nat → Int32))} {H : jm_H} {Q : Option Value → jm_H → Prop} {x0 x1 x2 x3 : Int32} : jm_w S 3 115 22 [.int x0, .int x1, .int x2, .int x3] [] H Q = jm_w S 3 115 23 [.int x0, .int x1, .int x2, .int x3] [.int (0 : Int32)] H Q := jsci at115_22 rfl rfl
theorem at115_23 : jm_at 115 23 = some (.ireturn) := by decide +kernel
theorem u115_23 {S : Option (Nat × (Nat → Int32))} {H : jm_H} {Q : Option Value → jm_H → Prop} {x0 x1 x2 x3 p0 : Int32} (h0 : p0 = 0 ∨ p0 = 1) : jm_w S 3 115 23 [.int x0, .int x1, .int x2, .int x3] [.int p0] H Q = Q (some (.int p0)) H := jsret_z at115_23 rfl h0
theorem en115 {S : Option (Nat × (Nat → Int32))} {H : jm_H} {Q : Option Value → jm_H → Prop} {x0 x1 x2 x3 : Int32} : jm_c S 115 [.int x0, .int x1, .int x2, .int x3] H Q = jm_w S 3 115 0 [.int x0, .int x1, .int x2, .int x3] [] H Q := rfl
theorem at142_0 : jm_at 142 0 = some (.iconst 1) := by decide +kernel
theorem at142_1 : jm_at 142 1 = some (.iload_n 0) := by decide +kernel
theorem at142_2 : jm_at 142 2 = some (.iconst 2) := by decide +kernel
theorem at142_3 : jm_at 142 3 = some (.isub) := by decide +kernel
theorem at142_4 : jm_at 142 4 = some (.ishl) := by decide +kernel
theorem at142_5 : jm_at 142 5 = some (.ireturn) := by decide +kernel
theorem u142_0 {S : Option (Nat × (Nat → Int32))} {H : jm_H} {Q : Option Value → jm_H → Prop} {x0 : Int32} : jm_w S 1 142 0 [.int x0] [] H Q = Q (some (.int ((1 : Int32) <<< ((x0 - (2 : Int32)) &&& 31)))) H := (jsci at142_0 rfl rfl).trans ((js1 at142_1 rfl rfl rfl).trans ((jsci at142_2 rfl rfl).trans ((js0 at142_3 rfl rfl rfl).trans ((js0 at142_4 rfl rfl rfl).trans (jsret_i at142_5 rfl)))))
theorem en142 {S : Option (Nat × (Nat → Int32))} {H : jm_H} {Q : Option Value → jm_H → Prop} {x0 : Int32} : jm_c S 142 [.int x0] H Q = jm_w S 1 142 0 [.int x0] [] H Q := rfl
