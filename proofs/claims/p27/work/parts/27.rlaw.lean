set_option maxRecDepth 20000
theorem at255_7 : jm_at 255 7 = some (.astore_n 1) := by decide +kernel
theorem at255_15 : jm_at 255 15 = some (.astore_n 2) := by decide +kernel
theorem at255_16 : jm_at 255 16 = some (.iconst 0) := by decide +kernel
theorem at255_17 : jm_at 255 17 = some (.istore_n 3) := by decide +kernel
theorem u255_15 {L : Nat} {xs : Nat → Int32} {H : jm_H} {Q : Option Value → jm_H → Prop} {r1 o0 : Nat} : jm_w (some (L, xs)) 49 255 15 [.ref 1, .ref r1, .null, .null] [.ref o0] H Q = jm_w (some (L, xs)) 49 255 18 [.ref 1, .ref r1, .ref o0, .int (0 : Int32)] [] H Q := (js1 at255_15 rfl rfl rfl).trans ((jsci at255_16 rfl rfl).trans (js1 at255_17 rfl rfl rfl))
theorem at255_18 : jm_at 255 18 = some (.iload_n 3) := by decide +kernel
theorem at255_19 : jm_at 255 19 = some (.aload_n 0) := by decide +kernel
theorem at255_20 : jm_at 255 20 = some (.arraylength) := by decide +kernel
theorem at255_21 : jm_at 255 21 = some (.bipush 6) := by decide +kernel
theorem at255_23 : jm_at 255 23 = some (.isub) := by decide +kernel
theorem at255_24 : jm_at 255 24 = some (.if_icmp .gt 1312) := by decide +kernel
theorem u255_18 {L : Nat} {xs : Nat → Int32} {H : jm_H} {Q : Option Value → jm_H → Prop} {r1 r2 : Nat} {x3 : Int32} : jm_w (some (L, xs)) 49 255 18 [.ref 1, .ref r1, .ref r2, .int x3] [] H Q = if ((Int32.ofNat L) - (6 : Int32)) < x3 then jm_w (some (L, xs)) 49 255 1336 [.ref 1, .ref r1, .ref r2, .int x3] [] H Q else jm_w (some (L, xs)) 49 255 27 [.ref 1, .ref r1, .ref r2, .int x3] [] H Q := (js1 at255_18 rfl rfl rfl).trans ((js1 at255_19 rfl rfl rfl).trans ((jssln (H := H) at255_20 rfl).trans ((jscb at255_21 rfl rfl).trans ((js0 at255_23 rfl rfl rfl).trans (jsif (P := ((Int32.ofNat L) - (6 : Int32)) < x3) at255_24 rfl rfl)))))
theorem at255_27 : jm_at 255 27 = some (.aload_n 0) := by decide +kernel
theorem at255_28 : jm_at 255 28 = some (.iload_n 3) := by decide +kernel
theorem at255_29 : jm_at 255 29 = some (.iaload) := by decide +kernel
theorem at255_30 : jm_at 255 30 = some (.bipush 31) := by decide +kernel
theorem at255_32 : jm_at 255 32 = some (.iand) := by decide +kernel
theorem u255_27 {L : Nat} {xs : Nat → Int32} {H : jm_H} {Q : Option Value → jm_H → Prop} {r1 r2 : Nat} {x3 : Int32} (h0 : ¬ (x3 < 0 ∨ L ≤ Int32.toNatClampNeg x3)) : jm_w (some (L, xs)) 49 255 27 [.ref 1, .ref r1, .ref r2, .int x3] [] H Q = jm_w (some (L, xs)) 49 255 33 [.ref 1, .ref r1, .ref r2, .int x3] [.int ((xs (Int32.toNatClampNeg x3)) &&& (31 : Int32))] H Q := (js1 at255_27 rfl rfl rfl).trans ((js1 at255_28 rfl rfl rfl).trans ((jssal (H := H) at255_29 h0 rfl).trans ((jscb at255_30 rfl rfl).trans (js0 at255_32 rfl rfl rfl))))
theorem at255_33 : jm_at 255 33 = some (.tableswitch 1297 0 27 #[127, 190, 213, 226, 239, 272, 331, 344, 357, 410, 473, 536, 579, 642, 695, 748, 801, 864, 917, 980, 1003, 1056, 1119, 1152, 1195, 1228, 1251, 1274]) := by decide +kernel
theorem u255_33_0 {L : Nat} {xs : Nat → Int32} {H : jm_H} {Q : Option Value → jm_H → Prop} {r1 r2 : Nat} {x3 : Int32} : jm_w (some (L, xs)) 49 255 33 [.ref 1, .ref r1, .ref r2, .int x3] [.int 0] H Q = jm_w (some (L, xs)) 49 255 160 [.ref 1, .ref r1, .ref r2, .int x3] [] H Q := js2 at255_33 rfl rfl
theorem u255_33_1 {L : Nat} {xs : Nat → Int32} {H : jm_H} {Q : Option Value → jm_H → Prop} {r1 r2 : Nat} {x3 : Int32} : jm_w (some (L, xs)) 49 255 33 [.ref 1, .ref r1, .ref r2, .int x3] [.int 1] H Q = jm_w (some (L, xs)) 49 255 223 [.ref 1, .ref r1, .ref r2, .int x3] [] H Q := js2 at255_33 rfl rfl
theorem u255_33_2 {L : Nat} {xs : Nat → Int32} {H : jm_H} {Q : Option Value → jm_H → Prop} {r1 r2 : Nat} {x3 : Int32} : jm_w (some (L, xs)) 49 255 33 [.ref 1, .ref r1, .ref r2, .int x3] [.int 2] H Q = jm_w (some (L, xs)) 49 255 246 [.ref 1, .ref r1, .ref r2, .int x3] [] H Q := js2 at255_33 rfl rfl
theorem u255_33_3 {L : Nat} {xs : Nat → Int32} {H : jm_H} {Q : Option Value → jm_H → Prop} {r1 r2 : Nat} {x3 : Int32} : jm_w (some (L, xs)) 49 255 33 [.ref 1, .ref r1, .ref r2, .int x3] [.int 3] H Q = jm_w (some (L, xs)) 49 255 259 [.ref 1, .ref r1, .ref r2, .int x3] [] H Q := js2 at255_33 rfl rfl
theorem u255_33_4 {L : Nat} {xs : Nat → Int32} {H : jm_H} {Q : Option Value → jm_H → Prop} {r1 r2 : Nat} {x3 : Int32} : jm_w (some (L, xs)) 49 255 33 [.ref 1, .ref r1, .ref r2, .int x3] [.int 4] H Q = jm_w (some (L, xs)) 49 255 272 [.ref 1, .ref r1, .ref r2, .int x3] [] H Q := js2 at255_33 rfl rfl
theorem u255_33_5 {L : Nat} {xs : Nat → Int32} {H : jm_H} {Q : Option Value → jm_H → Prop} {r1 r2 : Nat} {x3 : Int32} : jm_w (some (L, xs)) 49 255 33 [.ref 1, .ref r1, .ref r2, .int x3] [.int 5] H Q = jm_w (some (L, xs)) 49 255 305 [.ref 1, .ref r1, .ref r2, .int x3] [] H Q := js2 at255_33 rfl rfl
theorem u255_33_6 {L : Nat} {xs : Nat → Int32} {H : jm_H} {Q : Option Value → jm_H → Prop} {r1 r2 : Nat} {x3 : Int32} : jm_w (some (L, xs)) 49 255 33 [.ref 1, .ref r1, .ref r2, .int x3] [.int 6] H Q = jm_w (some (L, xs)) 49 255 364 [.ref 1, .ref r1, .ref r2, .int x3] [] H Q := js2 at255_33 rfl rfl
theorem u255_33_7 {L : Nat} {xs : Nat → Int32} {H : jm_H} {Q : Option Value → jm_H → Prop} {r1 r2 : Nat} {x3 : Int32} : jm_w (some (L, xs)) 49 255 33 [.ref 1, .ref r1, .ref r2, .int x3] [.int 7] H Q = jm_w (some (L, xs)) 49 255 377 [.ref 1, .ref r1, .ref r2, .int x3] [] H Q := js2 at255_33 rfl rfl
theorem u255_33_8 {L : Nat} {xs : Nat → Int32} {H : jm_H} {Q : Option Value → jm_H → Prop} {r1 r2 : Nat} {x3 : Int32} : jm_w (some (L, xs)) 49 255 33 [.ref 1, .ref r1, .ref r2, .int x3] [.int 8] H Q = jm_w (some (L, xs)) 49 255 390 [.ref 1, .ref r1, .ref r2, .int x3] [] H Q := js2 at255_33 rfl rfl
theorem u255_33_9 {L : Nat} {xs : Nat → Int32} {H : jm_H} {Q : Option Value → jm_H → Prop} {r1 r2 : Nat} {x3 : Int32} : jm_w (some (L, xs)) 49 255 33 [.ref 1, .ref r1, .ref r2, .int x3] [.int 9] H Q = jm_w (some (L, xs)) 49 255 443 [.ref 1, .ref r1, .ref r2, .int x3] [] H Q := js2 at255_33 rfl rfl
theorem u255_33_10 {L : Nat} {xs : Nat → Int32} {H : jm_H} {Q : Option Value → jm_H → Prop} {r1 r2 : Nat} {x3 : Int32} : jm_w (some (L, xs)) 49 255 33 [.ref 1, .ref r1, .ref r2, .int x3] [.int 10] H Q = jm_w (some (L, xs)) 49 255 506 [.ref 1, .ref r1, .ref r2, .int x3] [] H Q := js2 at255_33 rfl rfl
theorem u255_33_11 {L : Nat} {xs : Nat → Int32} {H : jm_H} {Q : Option Value → jm_H → Prop} {r1 r2 : Nat} {x3 : Int32} : jm_w (some (L, xs)) 49 255 33 [.ref 1, .ref r1, .ref r2, .int x3] [.int 11] H Q = jm_w (some (L, xs)) 49 255 569 [.ref 1, .ref r1, .ref r2, .int x3] [] H Q := js2 at255_33 rfl rfl
theorem u255_33_12 {L : Nat} {xs : Nat → Int32} {H : jm_H} {Q : Option Value → jm_H → Prop} {r1 r2 : Nat} {x3 : Int32} : jm_w (some (L, xs)) 49 255 33 [.ref 1, .ref r1, .ref r2, .int x3] [.int 12] H Q = jm_w (some (L, xs)) 49 255 612 [.ref 1, .ref r1, .ref r2, .int x3] [] H Q := js2 at255_33 rfl rfl
theorem u255_33_13 {L : Nat} {xs : Nat → Int32} {H : jm_H} {Q : Option Value → jm_H → Prop} {r1 r2 : Nat} {x3 : Int32} : jm_w (some (L, xs)) 49 255 33 [.ref 1, .ref r1, .ref r2, .int x3] [.int 13] H Q = jm_w (some (L, xs)) 49 255 675 [.ref 1, .ref r1, .ref r2, .int x3] [] H Q := js2 at255_33 rfl rfl
theorem u255_33_14 {L : Nat} {xs : Nat → Int32} {H : jm_H} {Q : Option Value → jm_H → Prop} {r1 r2 : Nat} {x3 : Int32} : jm_w (some (L, xs)) 49 255 33 [.ref 1, .ref r1, .ref r2, .int x3] [.int 14] H Q = jm_w (some (L, xs)) 49 255 728 [.ref 1, .ref r1, .ref r2, .int x3] [] H Q := js2 at255_33 rfl rfl
theorem u255_33_15 {L : Nat} {xs : Nat → Int32} {H : jm_H} {Q : Option Value → jm_H → Prop} {r1 r2 : Nat} {x3 : Int32} : jm_w (some (L, xs)) 49 255 33 [.ref 1, .ref r1, .ref r2, .int x3] [.int 15] H Q = jm_w (some (L, xs)) 49 255 781 [.ref 1, .ref r1, .ref r2, .int x3] [] H Q := js2 at255_33 rfl rfl
theorem u255_33_16 {L : Nat} {xs : Nat → Int32} {H : jm_H} {Q : Option Value → jm_H → Prop} {r1 r2 : Nat} {x3 : Int32} : jm_w (some (L, xs)) 49 255 33 [.ref 1, .ref r1, .ref r2, .int x3] [.int 16] H Q = jm_w (some (L, xs)) 49 255 834 [.ref 1, .ref r1, .ref r2, .int x3] [] H Q := js2 at255_33 rfl rfl
theorem u255_33_17 {L : Nat} {xs : Nat → Int32} {H : jm_H} {Q : Option Value → jm_H → Prop} {r1 r2 : Nat} {x3 : Int32} : jm_w (some (L, xs)) 49 255 33 [.ref 1, .ref r1, .ref r2, .int x3] [.int 17] H Q = jm_w (some (L, xs)) 49 255 897 [.ref 1, .ref r1, .ref r2, .int x3] [] H Q := js2 at255_33 rfl rfl
theorem u255_33_18 {L : Nat} {xs : Nat → Int32} {H : jm_H} {Q : Option Value → jm_H → Prop} {r1 r2 : Nat} {x3 : Int32} : jm_w (some (L, xs)) 49 255 33 [.ref 1, .ref r1, .ref r2, .int x3] [.int 18] H Q = jm_w (some (L, xs)) 49 255 950 [.ref 1, .ref r1, .ref r2, .int x3] [] H Q := js2 at255_33 rfl rfl
theorem u255_33_19 {L : Nat} {xs : Nat → Int32} {H : jm_H} {Q : Option Value → jm_H → Prop} {r1 r2 : Nat} {x3 : Int32} : jm_w (some (L, xs)) 49 255 33 [.ref 1, .ref r1, .ref r2, .int x3] [.int 19] H Q = jm_w (some (L, xs)) 49 255 1013 [.ref 1, .ref r1, .ref r2, .int x3] [] H Q := js2 at255_33 rfl rfl
theorem u255_33_20 {L : Nat} {xs : Nat → Int32} {H : jm_H} {Q : Option Value → jm_H → Prop} {r1 r2 : Nat} {x3 : Int32} : jm_w (some (L, xs)) 49 255 33 [.ref 1, .ref r1, .ref r2, .int x3] [.int 20] H Q = jm_w (some (L, xs)) 49 255 1036 [.ref 1, .ref r1, .ref r2, .int x3] [] H Q := js2 at255_33 rfl rfl
theorem u255_33_21 {L : Nat} {xs : Nat → Int32} {H : jm_H} {Q : Option Value → jm_H → Prop} {r1 r2 : Nat} {x3 : Int32} : jm_w (some (L, xs)) 49 255 33 [.ref 1, .ref r1, .ref r2, .int x3] [.int 21] H Q = jm_w (some (L, xs)) 49 255 1089 [.ref 1, .ref r1, .ref r2, .int x3] [] H Q := js2 at255_33 rfl rfl
theorem u255_33_22 {L : Nat} {xs : Nat → Int32} {H : jm_H} {Q : Option Value → jm_H → Prop} {r1 r2 : Nat} {x3 : Int32} : jm_w (some (L, xs)) 49 255 33 [.ref 1, .ref r1, .ref r2, .int x3] [.int 22] H Q = jm_w (some (L, xs)) 49 255 1152 [.ref 1, .ref r1, .ref r2, .int x3] [] H Q := js2 at255_33 rfl rfl
theorem u255_33_23 {L : Nat} {xs : Nat → Int32} {H : jm_H} {Q : Option Value → jm_H → Prop} {r1 r2 : Nat} {x3 : Int32} : jm_w (some (L, xs)) 49 255 33 [.ref 1, .ref r1, .ref r2, .int x3] [.int 23] H Q = jm_w (some (L, xs)) 49 255 1185 [.ref 1, .ref r1, .ref r2, .int x3] [] H Q := js2 at255_33 rfl rfl
theorem u255_33_24 {L : Nat} {xs : Nat → Int32} {H : jm_H} {Q : Option Value → jm_H → Prop} {r1 r2 : Nat} {x3 : Int32} : jm_w (some (L, xs)) 49 255 33 [.ref 1, .ref r1, .ref r2, .int x3] [.int 24] H Q = jm_w (some (L, xs)) 49 255 1228 [.ref 1, .ref r1, .ref r2, .int x3] [] H Q := js2 at255_33 rfl rfl
theorem u255_33_25 {L : Nat} {xs : Nat → Int32} {H : jm_H} {Q : Option Value → jm_H → Prop} {r1 r2 : Nat} {x3 : Int32} : jm_w (some (L, xs)) 49 255 33 [.ref 1, .ref r1, .ref r2, .int x3] [.int 25] H Q = jm_w (some (L, xs)) 49 255 1261 [.ref 1, .ref r1, .ref r2, .int x3] [] H Q := js2 at255_33 rfl rfl
theorem u255_33_26 {L : Nat} {xs : Nat → Int32} {H : jm_H} {Q : Option Value → jm_H → Prop} {r1 r2 : Nat} {x3 : Int32} : jm_w (some (L, xs)) 49 255 33 [.ref 1, .ref r1, .ref r2, .int x3] [.int 26] H Q = jm_w (some (L, xs)) 49 255 1284 [.ref 1, .ref r1, .ref r2, .int x3] [] H Q := js2 at255_33 rfl rfl
theorem u255_33_27 {L : Nat} {xs : Nat → Int32} {H : jm_H} {Q : Option Value → jm_H → Prop} {r1 r2 : Nat} {x3 : Int32} : jm_w (some (L, xs)) 49 255 33 [.ref 1, .ref r1, .ref r2, .int x3] [.int 27] H Q = jm_w (some (L, xs)) 49 255 1307 [.ref 1, .ref r1, .ref r2, .int x3] [] H Q := js2 at255_33 rfl rfl
theorem u255_33_d {L : Nat} {xs : Nat → Int32} {H : jm_H} {Q : Option Value → jm_H → Prop} {r1 r2 : Nat} {x3 p0 : Int32} (h : Int32.toInt p0 < 0 ∨ 27 < Int32.toInt p0) : jm_w (some (L, xs)) 49 255 33 [.ref 1, .ref r1, .ref r2, .int x3] [.int p0] H Q = jm_w (some (L, xs)) 49 255 1330 [.ref 1, .ref r1, .ref r2, .int x3] [] H Q := js2 at255_33 rfl ((if_pos h).trans rfl)
theorem at255_160 : jm_at 255 160 = some (.aload_n 1) := by decide +kernel
theorem at255_161 : jm_at 255 161 = some (.aload_n 0) := by decide +kernel
theorem at255_162 : jm_at 255 162 = some (.iload_n 3) := by decide +kernel
theorem at255_163 : jm_at 255 163 = some (.iconst 1) := by decide +kernel
theorem at255_164 : jm_at 255 164 = some (.iadd) := by decide +kernel
theorem at255_165 : jm_at 255 165 = some (.iaload) := by decide +kernel
theorem at255_166 : jm_at 255 166 = some (.aload_n 0) := by decide +kernel
theorem at255_167 : jm_at 255 167 = some (.iload_n 3) := by decide +kernel
theorem at255_168 : jm_at 255 168 = some (.iconst 2) := by decide +kernel
theorem at255_169 : jm_at 255 169 = some (.iadd) := by decide +kernel
theorem at255_170 : jm_at 255 170 = some (.iaload) := by decide +kernel
theorem at255_171 : jm_at 255 171 = some (.aload_n 0) := by decide +kernel
theorem at255_172 : jm_at 255 172 = some (.iload_n 3) := by decide +kernel
theorem at255_173 : jm_at 255 173 = some (.iconst 3) := by decide +kernel
theorem at255_174 : jm_at 255 174 = some (.iadd) := by decide +kernel
theorem at255_175 : jm_at 255 175 = some (.iaload) := by decide +kernel
theorem at255_176 : jm_at 255 176 = some (.aload_n 0) := by decide +kernel
theorem at255_177 : jm_at 255 177 = some (.iload_n 3) := by decide +kernel
theorem at255_178 : jm_at 255 178 = some (.iconst 4) := by decide +kernel
theorem at255_179 : jm_at 255 179 = some (.iadd) := by decide +kernel
theorem at255_180 : jm_at 255 180 = some (.iaload) := by decide +kernel
theorem at255_181 : jm_at 255 181 = some (.aload_n 0) := by decide +kernel
theorem at255_182 : jm_at 255 182 = some (.iload_n 3) := by decide +kernel
theorem at255_183 : jm_at 255 183 = some (.iconst 5) := by decide +kernel
theorem at255_184 : jm_at 255 184 = some (.iadd) := by decide +kernel
theorem at255_185 : jm_at 255 185 = some (.iaload) := by decide +kernel
theorem at255_186 : jm_at 255 186 = some (.invokevirtual 13) := by decide +kernel
theorem rv255i_13 : jm_rv 255 (.invokevirtual 13) = (2, 13, 0, 0) := by decide +kernel
theorem u255_160 {L : Nat} {xs : Nat → Int32} {H : jm_H} {Q : Option Value → jm_H → Prop} {r1 r2 : Nat} {x3 : Int32} (h0 : ¬ ((x3 + (1 : Int32)) < 0 ∨ L ≤ Int32.toNatClampNeg (x3 + (1 : Int32)))) (h1 : ¬ ((x3 + (2 : Int32)) < 0 ∨ L ≤ Int32.toNatClampNeg (x3 + (2 : Int32)))) (h2 : ¬ ((x3 + (3 : Int32)) < 0 ∨ L ≤ Int32.toNatClampNeg (x3 + (3 : Int32)))) (h3 : ¬ ((x3 + (4 : Int32)) < 0 ∨ L ≤ Int32.toNatClampNeg (x3 + (4 : Int32)))) (h4 : ¬ ((x3 + (5 : Int32)) < 0 ∨ L ≤ Int32.toNatClampNeg (x3 + (5 : Int32)))) (h5 : jm_tg H r1 = 12) : jm_w (some (L, xs)) 49 255 160 [.ref 1, .ref r1, .ref r2, .int x3] [] H Q = jm_c (some (L, xs)) 13 [.ref r1, .int (xs (Int32.toNatClampNeg (x3 + (1 : Int32)))), .int (xs (Int32.toNatClampNeg (x3 + (2 : Int32)))), .int (xs (Int32.toNatClampNeg (x3 + (3 : Int32)))), .int (xs (Int32.toNatClampNeg (x3 + (4 : Int32)))), .int (xs (Int32.toNatClampNeg (x3 + (5 : Int32))))] H (fun v G => jm_w (some (L, xs)) 49 255 189 [.ref 1, .ref r1, .ref r2, .int x3] (v.toList ++ []) G Q) := (js1 at255_160 rfl rfl rfl).trans ((js1 at255_161 rfl rfl rfl).trans ((js1 at255_162 rfl rfl rfl).trans ((jsci at255_163 rfl rfl).trans ((js0 at255_164 rfl rfl rfl).trans ((jssal (H := H) at255_165 h0 rfl).trans ((js1 at255_166 rfl rfl rfl).trans ((js1 at255_167 rfl rfl rfl).trans ((jsci at255_168 rfl rfl).trans ((js0 at255_169 rfl rfl rfl).trans ((jssal (H := H) at255_170 h1 rfl).trans ((js1 at255_171 rfl rfl rfl).trans ((js1 at255_172 rfl rfl rfl).trans ((jsci at255_173 rfl rfl).trans ((js0 at255_174 rfl rfl rfl).trans ((jssal (H := H) at255_175 h2 rfl).trans ((js1 at255_176 rfl rfl rfl).trans ((js1 at255_177 rfl rfl rfl).trans ((jsci at255_178 rfl rfl).trans ((js0 at255_179 rfl rfl rfl).trans ((jssal (H := H) at255_180 h3 rfl).trans ((js1 at255_181 rfl rfl rfl).trans ((js1 at255_182 rfl rfl rfl).trans ((jsci at255_183 rfl rfl).trans ((js0 at255_184 rfl rfl rfl).trans ((jssal (H := H) at255_185 h4 rfl).trans (jscall (H := H) (as := [.ref r1, .int (xs (Int32.toNatClampNeg (x3 + (1 : Int32)))), .int (xs (Int32.toNatClampNeg (x3 + (2 : Int32)))), .int (xs (Int32.toNatClampNeg (x3 + (3 : Int32)))), .int (xs (Int32.toNatClampNeg (x3 + (4 : Int32)))), .int (xs (Int32.toNatClampNeg (x3 + (5 : Int32))))]) (q := []) at255_186 rfl rv255i_13 (jscutV rfl rfl rfl (Nat.le_of_ble_eq_true rfl) rfl h5) rfl (Nat.le_of_ble_eq_true rfl) rfl rfl))))))))))))))))))))))))))
theorem at255_189 : jm_at 255 189 = some (.pop) := by decide +kernel
theorem at255_190 : jm_at 255 190 = some (.aload_n 2) := by decide +kernel
theorem at255_191 : jm_at 255 191 = some (.aload_n 0) := by decide +kernel
theorem at255_192 : jm_at 255 192 = some (.iload_n 3) := by decide +kernel
theorem at255_193 : jm_at 255 193 = some (.iconst 1) := by decide +kernel
theorem at255_194 : jm_at 255 194 = some (.iadd) := by decide +kernel
theorem at255_195 : jm_at 255 195 = some (.iaload) := by decide +kernel
theorem at255_196 : jm_at 255 196 = some (.aload_n 0) := by decide +kernel
theorem at255_197 : jm_at 255 197 = some (.iload_n 3) := by decide +kernel
theorem at255_198 : jm_at 255 198 = some (.iconst 2) := by decide +kernel
theorem at255_199 : jm_at 255 199 = some (.iadd) := by decide +kernel
theorem at255_200 : jm_at 255 200 = some (.iaload) := by decide +kernel
theorem at255_201 : jm_at 255 201 = some (.aload_n 0) := by decide +kernel
theorem at255_202 : jm_at 255 202 = some (.iload_n 3) := by decide +kernel
theorem at255_203 : jm_at 255 203 = some (.iconst 3) := by decide +kernel
theorem at255_204 : jm_at 255 204 = some (.iadd) := by decide +kernel
theorem at255_205 : jm_at 255 205 = some (.iaload) := by decide +kernel
theorem at255_206 : jm_at 255 206 = some (.aload_n 0) := by decide +kernel
theorem at255_207 : jm_at 255 207 = some (.iload_n 3) := by decide +kernel
theorem at255_208 : jm_at 255 208 = some (.iconst 4) := by decide +kernel
theorem at255_209 : jm_at 255 209 = some (.iadd) := by decide +kernel
theorem at255_210 : jm_at 255 210 = some (.iaload) := by decide +kernel
theorem at255_211 : jm_at 255 211 = some (.aload_n 0) := by decide +kernel
theorem at255_212 : jm_at 255 212 = some (.iload_n 3) := by decide +kernel
theorem at255_213 : jm_at 255 213 = some (.iconst 5) := by decide +kernel
theorem at255_214 : jm_at 255 214 = some (.iadd) := by decide +kernel
theorem at255_215 : jm_at 255 215 = some (.iaload) := by decide +kernel
theorem at255_216 : jm_at 255 216 = some (.invokevirtual 17) := by decide +kernel
theorem rv255i_17 : jm_rv 255 (.invokevirtual 17) = (2, 157, 0, 0) := by decide +kernel
theorem u255_189 {L : Nat} {xs : Nat → Int32} {H : jm_H} {Q : Option Value → jm_H → Prop} {r1 r2 : Nat} {x3 p0 : Int32} (h0 : ¬ ((x3 + (1 : Int32)) < 0 ∨ L ≤ Int32.toNatClampNeg (x3 + (1 : Int32)))) (h1 : ¬ ((x3 + (2 : Int32)) < 0 ∨ L ≤ Int32.toNatClampNeg (x3 + (2 : Int32)))) (h2 : ¬ ((x3 + (3 : Int32)) < 0 ∨ L ≤ Int32.toNatClampNeg (x3 + (3 : Int32)))) (h3 : ¬ ((x3 + (4 : Int32)) < 0 ∨ L ≤ Int32.toNatClampNeg (x3 + (4 : Int32)))) (h4 : ¬ ((x3 + (5 : Int32)) < 0 ∨ L ≤ Int32.toNatClampNeg (x3 + (5 : Int32)))) (h5 : jm_tg H r2 = 13) : jm_w (some (L, xs)) 49 255 189 [.ref 1, .ref r1, .ref r2, .int x3] [.int p0] H Q = jm_c (some (L, xs)) 157 [.ref r2, .int (xs (Int32.toNatClampNeg (x3 + (1 : Int32)))), .int (xs (Int32.toNatClampNeg (x3 + (2 : Int32)))), .int (xs (Int32.toNatClampNeg (x3 + (3 : Int32)))), .int (xs (Int32.toNatClampNeg (x3 + (4 : Int32)))), .int (xs (Int32.toNatClampNeg (x3 + (5 : Int32))))] H (fun v G => jm_w (some (L, xs)) 49 255 219 [.ref 1, .ref r1, .ref r2, .int x3] (v.toList ++ []) G Q) := (js0 at255_189 rfl rfl rfl).trans ((js1 at255_190 rfl rfl rfl).trans ((js1 at255_191 rfl rfl rfl).trans ((js1 at255_192 rfl rfl rfl).trans ((jsci at255_193 rfl rfl).trans ((js0 at255_194 rfl rfl rfl).trans ((jssal (H := H) at255_195 h0 rfl).trans ((js1 at255_196 rfl rfl rfl).trans ((js1 at255_197 rfl rfl rfl).trans ((jsci at255_198 rfl rfl).trans ((js0 at255_199 rfl rfl rfl).trans ((jssal (H := H) at255_200 h1 rfl).trans ((js1 at255_201 rfl rfl rfl).trans ((js1 at255_202 rfl rfl rfl).trans ((jsci at255_203 rfl rfl).trans ((js0 at255_204 rfl rfl rfl).trans ((jssal (H := H) at255_205 h2 rfl).trans ((js1 at255_206 rfl rfl rfl).trans ((js1 at255_207 rfl rfl rfl).trans ((jsci at255_208 rfl rfl).trans ((js0 at255_209 rfl rfl rfl).trans ((jssal (H := H) at255_210 h3 rfl).trans ((js1 at255_211 rfl rfl rfl).trans ((js1 at255_212 rfl rfl rfl).trans ((jsci at255_213 rfl rfl).trans ((js0 at255_214 rfl rfl rfl).trans ((jssal (H := H) at255_215 h4 rfl).trans (jscall (H := H) (as := [.ref r2, .int (xs (Int32.toNatClampNeg (x3 + (1 : Int32)))), .int (xs (Int32.toNatClampNeg (x3 + (2 : Int32)))), .int (xs (Int32.toNatClampNeg (x3 + (3 : Int32)))), .int (xs (Int32.toNatClampNeg (x3 + (4 : Int32)))), .int (xs (Int32.toNatClampNeg (x3 + (5 : Int32))))]) (q := []) at255_216 rfl rv255i_17 (jscutV rfl rfl rfl (Nat.le_of_ble_eq_true rfl) rfl h5) rfl (Nat.le_of_ble_eq_true rfl) rfl rfl)))))))))))))))))))))))))))
theorem at255_219 : jm_at 255 219 = some (.pop) := by decide +kernel
theorem at255_220 : jm_at 255 220 = some (.goto 1110) := by decide +kernel
theorem u255_219 {L : Nat} {xs : Nat → Int32} {H : jm_H} {Q : Option Value → jm_H → Prop} {r1 r2 : Nat} {x3 p0 : Int32} : jm_w (some (L, xs)) 49 255 219 [.ref 1, .ref r1, .ref r2, .int x3] [.int p0] H Q = jm_w (some (L, xs)) 49 255 1330 [.ref 1, .ref r1, .ref r2, .int x3] [] H Q := (js0 at255_219 rfl rfl rfl).trans (js2 at255_220 rfl rfl)
theorem at255_223 : jm_at 255 223 = some (.aload_n 1) := by decide +kernel
theorem at255_224 : jm_at 255 224 = some (.aload_n 0) := by decide +kernel
theorem at255_225 : jm_at 255 225 = some (.iload_n 3) := by decide +kernel
theorem at255_226 : jm_at 255 226 = some (.iconst 1) := by decide +kernel
theorem at255_227 : jm_at 255 227 = some (.iadd) := by decide +kernel
theorem at255_228 : jm_at 255 228 = some (.iaload) := by decide +kernel
theorem at255_229 : jm_at 255 229 = some (.invokevirtual 18) := by decide +kernel
theorem rv255i_18 : jm_rv 255 (.invokevirtual 18) = (2, 15, 0, 0) := by decide +kernel
theorem u255_223 {L : Nat} {xs : Nat → Int32} {H : jm_H} {Q : Option Value → jm_H → Prop} {r1 r2 : Nat} {x3 : Int32} (h0 : ¬ ((x3 + (1 : Int32)) < 0 ∨ L ≤ Int32.toNatClampNeg (x3 + (1 : Int32)))) (h1 : jm_tg H r1 = 12) : jm_w (some (L, xs)) 49 255 223 [.ref 1, .ref r1, .ref r2, .int x3] [] H Q = jm_c (some (L, xs)) 15 [.ref r1, .int (xs (Int32.toNatClampNeg (x3 + (1 : Int32))))] H (fun v G => jm_w (some (L, xs)) 49 255 232 [.ref 1, .ref r1, .ref r2, .int x3] (v.toList ++ []) G Q) := (js1 at255_223 rfl rfl rfl).trans ((js1 at255_224 rfl rfl rfl).trans ((js1 at255_225 rfl rfl rfl).trans ((jsci at255_226 rfl rfl).trans ((js0 at255_227 rfl rfl rfl).trans ((jssal (H := H) at255_228 h0 rfl).trans (jscall (H := H) (as := [.ref r1, .int (xs (Int32.toNatClampNeg (x3 + (1 : Int32))))]) (q := []) at255_229 rfl rv255i_18 (jscutV rfl rfl rfl (Nat.le_of_ble_eq_true rfl) rfl h1) rfl (Nat.le_of_ble_eq_true rfl) rfl rfl))))))
theorem at255_232 : jm_at 255 232 = some (.pop) := by decide +kernel
theorem at255_233 : jm_at 255 233 = some (.aload_n 2) := by decide +kernel
theorem at255_234 : jm_at 255 234 = some (.aload_n 0) := by decide +kernel
theorem at255_235 : jm_at 255 235 = some (.iload_n 3) := by decide +kernel
theorem at255_236 : jm_at 255 236 = some (.iconst 1) := by decide +kernel
theorem at255_237 : jm_at 255 237 = some (.iadd) := by decide +kernel
theorem at255_238 : jm_at 255 238 = some (.iaload) := by decide +kernel
theorem at255_239 : jm_at 255 239 = some (.invokevirtual 22) := by decide +kernel
theorem rv255i_22 : jm_rv 255 (.invokevirtual 22) = (2, 159, 0, 0) := by decide +kernel
theorem u255_232 {L : Nat} {xs : Nat → Int32} {H : jm_H} {Q : Option Value → jm_H → Prop} {r1 r2 : Nat} {x3 p0 : Int32} (h0 : ¬ ((x3 + (1 : Int32)) < 0 ∨ L ≤ Int32.toNatClampNeg (x3 + (1 : Int32)))) (h1 : jm_tg H r2 = 13) : jm_w (some (L, xs)) 49 255 232 [.ref 1, .ref r1, .ref r2, .int x3] [.int p0] H Q = jm_c (some (L, xs)) 159 [.ref r2, .int (xs (Int32.toNatClampNeg (x3 + (1 : Int32))))] H (fun v G => jm_w (some (L, xs)) 49 255 242 [.ref 1, .ref r1, .ref r2, .int x3] (v.toList ++ []) G Q) := (js0 at255_232 rfl rfl rfl).trans ((js1 at255_233 rfl rfl rfl).trans ((js1 at255_234 rfl rfl rfl).trans ((js1 at255_235 rfl rfl rfl).trans ((jsci at255_236 rfl rfl).trans ((js0 at255_237 rfl rfl rfl).trans ((jssal (H := H) at255_238 h0 rfl).trans (jscall (H := H) (as := [.ref r2, .int (xs (Int32.toNatClampNeg (x3 + (1 : Int32))))]) (q := []) at255_239 rfl rv255i_22 (jscutV rfl rfl rfl (Nat.le_of_ble_eq_true rfl) rfl h1) rfl (Nat.le_of_ble_eq_true rfl) rfl rfl)))))))
theorem at255_242 : jm_at 255 242 = some (.pop) := by decide +kernel
theorem at255_243 : jm_at 255 243 = some (.goto 1087) := by decide +kernel
theorem u255_242 {L : Nat} {xs : Nat → Int32} {H : jm_H} {Q : Option Value → jm_H → Prop} {r1 r2 : Nat} {x3 p0 : Int32} : jm_w (some (L, xs)) 49 255 242 [.ref 1, .ref r1, .ref r2, .int x3] [.int p0] H Q = jm_w (some (L, xs)) 49 255 1330 [.ref 1, .ref r1, .ref r2, .int x3] [] H Q := (js0 at255_242 rfl rfl rfl).trans (js2 at255_243 rfl rfl)
theorem at255_246 : jm_at 255 246 = some (.aload_n 1) := by decide +kernel
theorem at255_247 : jm_at 255 247 = some (.invokevirtual 23) := by decide +kernel
theorem rv255i_23 : jm_rv 255 (.invokevirtual 23) = (2, 16, 0, 0) := by decide +kernel
theorem u255_246 {L : Nat} {xs : Nat → Int32} {H : jm_H} {Q : Option Value → jm_H → Prop} {r1 r2 : Nat} {x3 : Int32} (h0 : jm_tg H r1 = 12) : jm_w (some (L, xs)) 49 255 246 [.ref 1, .ref r1, .ref r2, .int x3] [] H Q = jm_c (some (L, xs)) 16 [.ref r1] H (fun v G => jm_w (some (L, xs)) 49 255 250 [.ref 1, .ref r1, .ref r2, .int x3] (v.toList ++ []) G Q) := (js1 at255_246 rfl rfl rfl).trans (jscall (H := H) (as := [.ref r1]) (q := []) at255_247 rfl rv255i_23 (jscutV rfl rfl rfl (Nat.le_of_ble_eq_true rfl) rfl h0) rfl (Nat.le_of_ble_eq_true rfl) rfl rfl)
theorem at255_250 : jm_at 255 250 = some (.pop) := by decide +kernel
theorem at255_251 : jm_at 255 251 = some (.aload_n 2) := by decide +kernel
theorem at255_252 : jm_at 255 252 = some (.invokevirtual 27) := by decide +kernel
theorem rv255i_27 : jm_rv 255 (.invokevirtual 27) = (2, 160, 0, 0) := by decide +kernel
theorem u255_250 {L : Nat} {xs : Nat → Int32} {H : jm_H} {Q : Option Value → jm_H → Prop} {r1 r2 : Nat} {x3 p0 : Int32} (h0 : jm_tg H r2 = 13) : jm_w (some (L, xs)) 49 255 250 [.ref 1, .ref r1, .ref r2, .int x3] [.int p0] H Q = jm_c (some (L, xs)) 160 [.ref r2] H (fun v G => jm_w (some (L, xs)) 49 255 255 [.ref 1, .ref r1, .ref r2, .int x3] (v.toList ++ []) G Q) := (js0 at255_250 rfl rfl rfl).trans ((js1 at255_251 rfl rfl rfl).trans (jscall (H := H) (as := [.ref r2]) (q := []) at255_252 rfl rv255i_27 (jscutV rfl rfl rfl (Nat.le_of_ble_eq_true rfl) rfl h0) rfl (Nat.le_of_ble_eq_true rfl) rfl rfl))
theorem at255_255 : jm_at 255 255 = some (.pop) := by decide +kernel
theorem at255_256 : jm_at 255 256 = some (.goto 1074) := by decide +kernel
theorem u255_255 {L : Nat} {xs : Nat → Int32} {H : jm_H} {Q : Option Value → jm_H → Prop} {r1 r2 : Nat} {x3 p0 : Int32} : jm_w (some (L, xs)) 49 255 255 [.ref 1, .ref r1, .ref r2, .int x3] [.int p0] H Q = jm_w (some (L, xs)) 49 255 1330 [.ref 1, .ref r1, .ref r2, .int x3] [] H Q := (js0 at255_255 rfl rfl rfl).trans (js2 at255_256 rfl rfl)
theorem at255_259 : jm_at 255 259 = some (.aload_n 1) := by decide +kernel
theorem at255_260 : jm_at 255 260 = some (.invokevirtual 28) := by decide +kernel
theorem rv255i_28 : jm_rv 255 (.invokevirtual 28) = (2, 91, 0, 0) := by decide +kernel
theorem u255_259 {L : Nat} {xs : Nat → Int32} {H : jm_H} {Q : Option Value → jm_H → Prop} {r1 r2 : Nat} {x3 : Int32} (h0 : jm_tg H r1 = 12) : jm_w (some (L, xs)) 49 255 259 [.ref 1, .ref r1, .ref r2, .int x3] [] H Q = jm_c (some (L, xs)) 91 [.ref r1] H (fun v G => jm_w (some (L, xs)) 49 255 263 [.ref 1, .ref r1, .ref r2, .int x3] (v.toList ++ []) G Q) := (js1 at255_259 rfl rfl rfl).trans (jscall (H := H) (as := [.ref r1]) (q := []) at255_260 rfl rv255i_28 (jscutV rfl rfl rfl (Nat.le_of_ble_eq_true rfl) rfl h0) rfl (Nat.le_of_ble_eq_true rfl) rfl rfl)
theorem at255_263 : jm_at 255 263 = some (.pop) := by decide +kernel
theorem at255_264 : jm_at 255 264 = some (.aload_n 2) := by decide +kernel
theorem at255_265 : jm_at 255 265 = some (.invokevirtual 31) := by decide +kernel
theorem rv255i_31 : jm_rv 255 (.invokevirtual 31) = (2, 211, 0, 0) := by decide +kernel
theorem u255_263 {L : Nat} {xs : Nat → Int32} {H : jm_H} {Q : Option Value → jm_H → Prop} {r1 r2 : Nat} {x3 p0 : Int32} (h0 : jm_tg H r2 = 13) : jm_w (some (L, xs)) 49 255 263 [.ref 1, .ref r1, .ref r2, .int x3] [.int p0] H Q = jm_c (some (L, xs)) 211 [.ref r2] H (fun v G => jm_w (some (L, xs)) 49 255 268 [.ref 1, .ref r1, .ref r2, .int x3] (v.toList ++ []) G Q) := (js0 at255_263 rfl rfl rfl).trans ((js1 at255_264 rfl rfl rfl).trans (jscall (H := H) (as := [.ref r2]) (q := []) at255_265 rfl rv255i_31 (jscutV rfl rfl rfl (Nat.le_of_ble_eq_true rfl) rfl h0) rfl (Nat.le_of_ble_eq_true rfl) rfl rfl))
theorem at255_268 : jm_at 255 268 = some (.pop) := by decide +kernel
theorem at255_269 : jm_at 255 269 = some (.goto 1061) := by decide +kernel
theorem u255_268 {L : Nat} {xs : Nat → Int32} {H : jm_H} {Q : Option Value → jm_H → Prop} {r1 r2 : Nat} {x3 p0 : Int32} : jm_w (some (L, xs)) 49 255 268 [.ref 1, .ref r1, .ref r2, .int x3] [.int p0] H Q = jm_w (some (L, xs)) 49 255 1330 [.ref 1, .ref r1, .ref r2, .int x3] [] H Q := (js0 at255_268 rfl rfl rfl).trans (js2 at255_269 rfl rfl)
theorem at255_272 : jm_at 255 272 = some (.aload_n 1) := by decide +kernel
theorem at255_273 : jm_at 255 273 = some (.aload_n 0) := by decide +kernel
theorem at255_274 : jm_at 255 274 = some (.iload_n 3) := by decide +kernel
theorem at255_275 : jm_at 255 275 = some (.iconst 1) := by decide +kernel
theorem at255_276 : jm_at 255 276 = some (.iadd) := by decide +kernel
theorem at255_277 : jm_at 255 277 = some (.iaload) := by decide +kernel
theorem at255_278 : jm_at 255 278 = some (.aload_n 0) := by decide +kernel
theorem at255_279 : jm_at 255 279 = some (.iload_n 3) := by decide +kernel
theorem at255_280 : jm_at 255 280 = some (.iconst 2) := by decide +kernel
theorem at255_281 : jm_at 255 281 = some (.iadd) := by decide +kernel
theorem at255_282 : jm_at 255 282 = some (.iaload) := by decide +kernel
theorem at255_283 : jm_at 255 283 = some (.invokevirtual 32) := by decide +kernel
theorem rv255i_32 : jm_rv 255 (.invokevirtual 32) = (2, 92, 0, 0) := by decide +kernel
theorem u255_272 {L : Nat} {xs : Nat → Int32} {H : jm_H} {Q : Option Value → jm_H → Prop} {r1 r2 : Nat} {x3 : Int32} (h0 : ¬ ((x3 + (1 : Int32)) < 0 ∨ L ≤ Int32.toNatClampNeg (x3 + (1 : Int32)))) (h1 : ¬ ((x3 + (2 : Int32)) < 0 ∨ L ≤ Int32.toNatClampNeg (x3 + (2 : Int32)))) (h2 : jm_tg H r1 = 12) : jm_w (some (L, xs)) 49 255 272 [.ref 1, .ref r1, .ref r2, .int x3] [] H Q = jm_c (some (L, xs)) 92 [.ref r1, .int (xs (Int32.toNatClampNeg (x3 + (1 : Int32)))), .int (xs (Int32.toNatClampNeg (x3 + (2 : Int32))))] H (fun v G => jm_w (some (L, xs)) 49 255 286 [.ref 1, .ref r1, .ref r2, .int x3] (v.toList ++ []) G Q) := (js1 at255_272 rfl rfl rfl).trans ((js1 at255_273 rfl rfl rfl).trans ((js1 at255_274 rfl rfl rfl).trans ((jsci at255_275 rfl rfl).trans ((js0 at255_276 rfl rfl rfl).trans ((jssal (H := H) at255_277 h0 rfl).trans ((js1 at255_278 rfl rfl rfl).trans ((js1 at255_279 rfl rfl rfl).trans ((jsci at255_280 rfl rfl).trans ((js0 at255_281 rfl rfl rfl).trans ((jssal (H := H) at255_282 h1 rfl).trans (jscall (H := H) (as := [.ref r1, .int (xs (Int32.toNatClampNeg (x3 + (1 : Int32)))), .int (xs (Int32.toNatClampNeg (x3 + (2 : Int32))))]) (q := []) at255_283 rfl rv255i_32 (jscutV rfl rfl rfl (Nat.le_of_ble_eq_true rfl) rfl h2) rfl (Nat.le_of_ble_eq_true rfl) rfl rfl)))))))))))
theorem at255_286 : jm_at 255 286 = some (.pop) := by decide +kernel
theorem at255_287 : jm_at 255 287 = some (.aload_n 2) := by decide +kernel
theorem at255_288 : jm_at 255 288 = some (.aload_n 0) := by decide +kernel
theorem at255_289 : jm_at 255 289 = some (.iload_n 3) := by decide +kernel
theorem at255_290 : jm_at 255 290 = some (.iconst 1) := by decide +kernel
theorem at255_291 : jm_at 255 291 = some (.iadd) := by decide +kernel
theorem at255_292 : jm_at 255 292 = some (.iaload) := by decide +kernel
theorem at255_293 : jm_at 255 293 = some (.aload_n 0) := by decide +kernel
theorem at255_294 : jm_at 255 294 = some (.iload_n 3) := by decide +kernel
theorem at255_295 : jm_at 255 295 = some (.iconst 2) := by decide +kernel
theorem at255_296 : jm_at 255 296 = some (.iadd) := by decide +kernel
theorem at255_297 : jm_at 255 297 = some (.iaload) := by decide +kernel
theorem at255_298 : jm_at 255 298 = some (.invokevirtual 36) := by decide +kernel
theorem rv255i_36 : jm_rv 255 (.invokevirtual 36) = (2, 216, 0, 0) := by decide +kernel
theorem u255_286 {L : Nat} {xs : Nat → Int32} {H : jm_H} {Q : Option Value → jm_H → Prop} {r1 r2 : Nat} {x3 p0 : Int32} (h0 : ¬ ((x3 + (1 : Int32)) < 0 ∨ L ≤ Int32.toNatClampNeg (x3 + (1 : Int32)))) (h1 : ¬ ((x3 + (2 : Int32)) < 0 ∨ L ≤ Int32.toNatClampNeg (x3 + (2 : Int32)))) (h2 : jm_tg H r2 = 13) : jm_w (some (L, xs)) 49 255 286 [.ref 1, .ref r1, .ref r2, .int x3] [.int p0] H Q = jm_c (some (L, xs)) 216 [.ref r2, .int (xs (Int32.toNatClampNeg (x3 + (1 : Int32)))), .int (xs (Int32.toNatClampNeg (x3 + (2 : Int32))))] H (fun v G => jm_w (some (L, xs)) 49 255 301 [.ref 1, .ref r1, .ref r2, .int x3] (v.toList ++ []) G Q) := (js0 at255_286 rfl rfl rfl).trans ((js1 at255_287 rfl rfl rfl).trans ((js1 at255_288 rfl rfl rfl).trans ((js1 at255_289 rfl rfl rfl).trans ((jsci at255_290 rfl rfl).trans ((js0 at255_291 rfl rfl rfl).trans ((jssal (H := H) at255_292 h0 rfl).trans ((js1 at255_293 rfl rfl rfl).trans ((js1 at255_294 rfl rfl rfl).trans ((jsci at255_295 rfl rfl).trans ((js0 at255_296 rfl rfl rfl).trans ((jssal (H := H) at255_297 h1 rfl).trans (jscall (H := H) (as := [.ref r2, .int (xs (Int32.toNatClampNeg (x3 + (1 : Int32)))), .int (xs (Int32.toNatClampNeg (x3 + (2 : Int32))))]) (q := []) at255_298 rfl rv255i_36 (jscutV rfl rfl rfl (Nat.le_of_ble_eq_true rfl) rfl h2) rfl (Nat.le_of_ble_eq_true rfl) rfl rfl))))))))))))
theorem at255_301 : jm_at 255 301 = some (.pop) := by decide +kernel
theorem at255_302 : jm_at 255 302 = some (.goto 1028) := by decide +kernel
theorem u255_301 {L : Nat} {xs : Nat → Int32} {H : jm_H} {Q : Option Value → jm_H → Prop} {r1 r2 : Nat} {x3 p0 : Int32} : jm_w (some (L, xs)) 49 255 301 [.ref 1, .ref r1, .ref r2, .int x3] [.int p0] H Q = jm_w (some (L, xs)) 49 255 1330 [.ref 1, .ref r1, .ref r2, .int x3] [] H Q := (js0 at255_301 rfl rfl rfl).trans (js2 at255_302 rfl rfl)
theorem at255_305 : jm_at 255 305 = some (.aload_n 1) := by decide +kernel
theorem at255_306 : jm_at 255 306 = some (.aload_n 0) := by decide +kernel
theorem at255_307 : jm_at 255 307 = some (.iload_n 3) := by decide +kernel
theorem at255_308 : jm_at 255 308 = some (.iconst 1) := by decide +kernel
theorem at255_309 : jm_at 255 309 = some (.iadd) := by decide +kernel
theorem at255_310 : jm_at 255 310 = some (.iaload) := by decide +kernel
theorem at255_311 : jm_at 255 311 = some (.aload_n 0) := by decide +kernel
theorem at255_312 : jm_at 255 312 = some (.iload_n 3) := by decide +kernel
theorem at255_313 : jm_at 255 313 = some (.iconst 2) := by decide +kernel
theorem at255_314 : jm_at 255 314 = some (.iadd) := by decide +kernel
theorem at255_315 : jm_at 255 315 = some (.iaload) := by decide +kernel
theorem at255_316 : jm_at 255 316 = some (.aload_n 0) := by decide +kernel
theorem at255_317 : jm_at 255 317 = some (.iload_n 3) := by decide +kernel
theorem at255_318 : jm_at 255 318 = some (.iconst 3) := by decide +kernel
theorem at255_319 : jm_at 255 319 = some (.iadd) := by decide +kernel
theorem at255_320 : jm_at 255 320 = some (.iaload) := by decide +kernel
theorem at255_321 : jm_at 255 321 = some (.ifCond .eq 7) := by decide +kernel
theorem u255_305 {L : Nat} {xs : Nat → Int32} {H : jm_H} {Q : Option Value → jm_H → Prop} {r1 r2 : Nat} {x3 : Int32} (h0 : ¬ ((x3 + (1 : Int32)) < 0 ∨ L ≤ Int32.toNatClampNeg (x3 + (1 : Int32)))) (h1 : ¬ ((x3 + (2 : Int32)) < 0 ∨ L ≤ Int32.toNatClampNeg (x3 + (2 : Int32)))) (h2 : ¬ ((x3 + (3 : Int32)) < 0 ∨ L ≤ Int32.toNatClampNeg (x3 + (3 : Int32)))) : jm_w (some (L, xs)) 49 255 305 [.ref 1, .ref r1, .ref r2, .int x3] [] H Q = if (xs (Int32.toNatClampNeg (x3 + (3 : Int32)))) = 0 then jm_w (some (L, xs)) 49 255 328 [.ref 1, .ref r1, .ref r2, .int x3] [.int (xs (Int32.toNatClampNeg (x3 + (2 : Int32)))), .int (xs (Int32.toNatClampNeg (x3 + (1 : Int32)))), .ref r1] H Q else jm_w (some (L, xs)) 49 255 324 [.ref 1, .ref r1, .ref r2, .int x3] [.int (xs (Int32.toNatClampNeg (x3 + (2 : Int32)))), .int (xs (Int32.toNatClampNeg (x3 + (1 : Int32)))), .ref r1] H Q := (js1 at255_305 rfl rfl rfl).trans ((js1 at255_306 rfl rfl rfl).trans ((js1 at255_307 rfl rfl rfl).trans ((jsci at255_308 rfl rfl).trans ((js0 at255_309 rfl rfl rfl).trans ((jssal (H := H) at255_310 h0 rfl).trans ((js1 at255_311 rfl rfl rfl).trans ((js1 at255_312 rfl rfl rfl).trans ((jsci at255_313 rfl rfl).trans ((js0 at255_314 rfl rfl rfl).trans ((jssal (H := H) at255_315 h1 rfl).trans ((js1 at255_316 rfl rfl rfl).trans ((js1 at255_317 rfl rfl rfl).trans ((jsci at255_318 rfl rfl).trans ((js0 at255_319 rfl rfl rfl).trans ((jssal (H := H) at255_320 h2 rfl).trans (jsif (P := (xs (Int32.toNatClampNeg (x3 + (3 : Int32)))) = 0) at255_321 rfl rfl))))))))))))))))
theorem at255_324 : jm_at 255 324 = some (.iconst 1) := by decide +kernel
theorem at255_325 : jm_at 255 325 = some (.goto 4) := by decide +kernel
theorem u255_324 {L : Nat} {xs : Nat → Int32} {H : jm_H} {Q : Option Value → jm_H → Prop} {r1 r2 o0 : Nat} {x3 p1 p2 : Int32} : jm_w (some (L, xs)) 49 255 324 [.ref 1, .ref r1, .ref r2, .int x3] [.int p2, .int p1, .ref o0] H Q = jm_w (some (L, xs)) 49 255 329 [.ref 1, .ref r1, .ref r2, .int x3] [.int (1 : Int32), .int p2, .int p1, .ref o0] H Q := (jsci at255_324 rfl rfl).trans (js2 at255_325 rfl rfl)
theorem at255_328 : jm_at 255 328 = some (.iconst 0) := by decide +kernel
theorem u255_328 {L : Nat} {xs : Nat → Int32} {H : jm_H} {Q : Option Value → jm_H → Prop} {r1 r2 o0 : Nat} {x3 p1 p2 : Int32} : jm_w (some (L, xs)) 49 255 328 [.ref 1, .ref r1, .ref r2, .int x3] [.int p2, .int p1, .ref o0] H Q = jm_w (some (L, xs)) 49 255 329 [.ref 1, .ref r1, .ref r2, .int x3] [.int (0 : Int32), .int p2, .int p1, .ref o0] H Q := jsci at255_328 rfl rfl
theorem at255_329 : jm_at 255 329 = some (.invokevirtual 37) := by decide +kernel
theorem rv255i_37 : jm_rv 255 (.invokevirtual 37) = (2, 98, 0, 0) := by decide +kernel
theorem u255_329 {L : Nat} {xs : Nat → Int32} {H : jm_H} {Q : Option Value → jm_H → Prop} {r1 r2 o0 : Nat} {x3 p1 p2 p3 : Int32} (h0 : jm_tg H o0 = 12) : jm_w (some (L, xs)) 49 255 329 [.ref 1, .ref r1, .ref r2, .int x3] [.int p3, .int p2, .int p1, .ref o0] H Q = jm_c (some (L, xs)) 98 [.ref o0, .int p1, .int p2, .int p3] H (fun v G => jm_w (some (L, xs)) 49 255 332 [.ref 1, .ref r1, .ref r2, .int x3] (v.toList ++ []) G Q) := jscall (H := H) (as := [.ref o0, .int p1, .int p2, .int p3]) (q := []) at255_329 rfl rv255i_37 (jscutV rfl rfl rfl (Nat.le_of_ble_eq_true rfl) rfl h0) rfl (Nat.le_of_ble_eq_true rfl) rfl rfl
theorem at255_332 : jm_at 255 332 = some (.pop) := by decide +kernel
theorem at255_333 : jm_at 255 333 = some (.aload_n 2) := by decide +kernel
theorem at255_334 : jm_at 255 334 = some (.aload_n 0) := by decide +kernel
theorem at255_335 : jm_at 255 335 = some (.iload_n 3) := by decide +kernel
theorem at255_336 : jm_at 255 336 = some (.iconst 1) := by decide +kernel
theorem at255_337 : jm_at 255 337 = some (.iadd) := by decide +kernel
theorem at255_338 : jm_at 255 338 = some (.iaload) := by decide +kernel
theorem at255_339 : jm_at 255 339 = some (.aload_n 0) := by decide +kernel
theorem at255_340 : jm_at 255 340 = some (.iload_n 3) := by decide +kernel
theorem at255_341 : jm_at 255 341 = some (.iconst 2) := by decide +kernel
theorem at255_342 : jm_at 255 342 = some (.iadd) := by decide +kernel
theorem at255_343 : jm_at 255 343 = some (.iaload) := by decide +kernel
theorem at255_344 : jm_at 255 344 = some (.aload_n 0) := by decide +kernel
theorem at255_345 : jm_at 255 345 = some (.iload_n 3) := by decide +kernel
theorem at255_346 : jm_at 255 346 = some (.iconst 3) := by decide +kernel
theorem at255_347 : jm_at 255 347 = some (.iadd) := by decide +kernel
theorem at255_348 : jm_at 255 348 = some (.iaload) := by decide +kernel
theorem at255_349 : jm_at 255 349 = some (.ifCond .eq 7) := by decide +kernel
theorem u255_332 {L : Nat} {xs : Nat → Int32} {H : jm_H} {Q : Option Value → jm_H → Prop} {r1 r2 : Nat} {x3 p0 : Int32} (h0 : ¬ ((x3 + (1 : Int32)) < 0 ∨ L ≤ Int32.toNatClampNeg (x3 + (1 : Int32)))) (h1 : ¬ ((x3 + (2 : Int32)) < 0 ∨ L ≤ Int32.toNatClampNeg (x3 + (2 : Int32)))) (h2 : ¬ ((x3 + (3 : Int32)) < 0 ∨ L ≤ Int32.toNatClampNeg (x3 + (3 : Int32)))) : jm_w (some (L, xs)) 49 255 332 [.ref 1, .ref r1, .ref r2, .int x3] [.int p0] H Q = if (xs (Int32.toNatClampNeg (x3 + (3 : Int32)))) = 0 then jm_w (some (L, xs)) 49 255 356 [.ref 1, .ref r1, .ref r2, .int x3] [.int (xs (Int32.toNatClampNeg (x3 + (2 : Int32)))), .int (xs (Int32.toNatClampNeg (x3 + (1 : Int32)))), .ref r2] H Q else jm_w (some (L, xs)) 49 255 352 [.ref 1, .ref r1, .ref r2, .int x3] [.int (xs (Int32.toNatClampNeg (x3 + (2 : Int32)))), .int (xs (Int32.toNatClampNeg (x3 + (1 : Int32)))), .ref r2] H Q := (js0 at255_332 rfl rfl rfl).trans ((js1 at255_333 rfl rfl rfl).trans ((js1 at255_334 rfl rfl rfl).trans ((js1 at255_335 rfl rfl rfl).trans ((jsci at255_336 rfl rfl).trans ((js0 at255_337 rfl rfl rfl).trans ((jssal (H := H) at255_338 h0 rfl).trans ((js1 at255_339 rfl rfl rfl).trans ((js1 at255_340 rfl rfl rfl).trans ((jsci at255_341 rfl rfl).trans ((js0 at255_342 rfl rfl rfl).trans ((jssal (H := H) at255_343 h1 rfl).trans ((js1 at255_344 rfl rfl rfl).trans ((js1 at255_345 rfl rfl rfl).trans ((jsci at255_346 rfl rfl).trans ((js0 at255_347 rfl rfl rfl).trans ((jssal (H := H) at255_348 h2 rfl).trans (jsif (P := (xs (Int32.toNatClampNeg (x3 + (3 : Int32)))) = 0) at255_349 rfl rfl)))))))))))))))))
theorem at255_352 : jm_at 255 352 = some (.iconst 1) := by decide +kernel
theorem at255_353 : jm_at 255 353 = some (.goto 4) := by decide +kernel
theorem u255_352 {L : Nat} {xs : Nat → Int32} {H : jm_H} {Q : Option Value → jm_H → Prop} {r1 r2 o0 : Nat} {x3 p1 p2 : Int32} : jm_w (some (L, xs)) 49 255 352 [.ref 1, .ref r1, .ref r2, .int x3] [.int p2, .int p1, .ref o0] H Q = jm_w (some (L, xs)) 49 255 357 [.ref 1, .ref r1, .ref r2, .int x3] [.int (1 : Int32), .int p2, .int p1, .ref o0] H Q := (jsci at255_352 rfl rfl).trans (js2 at255_353 rfl rfl)
theorem at255_356 : jm_at 255 356 = some (.iconst 0) := by decide +kernel
theorem u255_356 {L : Nat} {xs : Nat → Int32} {H : jm_H} {Q : Option Value → jm_H → Prop} {r1 r2 o0 : Nat} {x3 p1 p2 : Int32} : jm_w (some (L, xs)) 49 255 356 [.ref 1, .ref r1, .ref r2, .int x3] [.int p2, .int p1, .ref o0] H Q = jm_w (some (L, xs)) 49 255 357 [.ref 1, .ref r1, .ref r2, .int x3] [.int (0 : Int32), .int p2, .int p1, .ref o0] H Q := jsci at255_356 rfl rfl
theorem at255_357 : jm_at 255 357 = some (.invokevirtual 41) := by decide +kernel
theorem rv255i_41 : jm_rv 255 (.invokevirtual 41) = (2, 219, 0, 0) := by decide +kernel
theorem u255_357 {L : Nat} {xs : Nat → Int32} {H : jm_H} {Q : Option Value → jm_H → Prop} {r1 r2 o0 : Nat} {x3 p1 p2 p3 : Int32} (h0 : jm_tg H o0 = 13) : jm_w (some (L, xs)) 49 255 357 [.ref 1, .ref r1, .ref r2, .int x3] [.int p3, .int p2, .int p1, .ref o0] H Q = jm_c (some (L, xs)) 219 [.ref o0, .int p1, .int p2, .int p3] H (fun v G => jm_w (some (L, xs)) 49 255 360 [.ref 1, .ref r1, .ref r2, .int x3] (v.toList ++ []) G Q) := jscall (H := H) (as := [.ref o0, .int p1, .int p2, .int p3]) (q := []) at255_357 rfl rv255i_41 (jscutV rfl rfl rfl (Nat.le_of_ble_eq_true rfl) rfl h0) rfl (Nat.le_of_ble_eq_true rfl) rfl rfl
theorem at255_360 : jm_at 255 360 = some (.pop) := by decide +kernel
theorem at255_361 : jm_at 255 361 = some (.goto 969) := by decide +kernel
theorem u255_360 {L : Nat} {xs : Nat → Int32} {H : jm_H} {Q : Option Value → jm_H → Prop} {r1 r2 : Nat} {x3 p0 : Int32} : jm_w (some (L, xs)) 49 255 360 [.ref 1, .ref r1, .ref r2, .int x3] [.int p0] H Q = jm_w (some (L, xs)) 49 255 1330 [.ref 1, .ref r1, .ref r2, .int x3] [] H Q := (js0 at255_360 rfl rfl rfl).trans (js2 at255_361 rfl rfl)
theorem at255_364 : jm_at 255 364 = some (.aload_n 1) := by decide +kernel
theorem at255_365 : jm_at 255 365 = some (.invokevirtual 42) := by decide +kernel
theorem rv255i_42 : jm_rv 255 (.invokevirtual 42) = (2, 100, 0, 0) := by decide +kernel
theorem u255_364 {L : Nat} {xs : Nat → Int32} {H : jm_H} {Q : Option Value → jm_H → Prop} {r1 r2 : Nat} {x3 : Int32} (h0 : jm_tg H r1 = 12) : jm_w (some (L, xs)) 49 255 364 [.ref 1, .ref r1, .ref r2, .int x3] [] H Q = jm_c (some (L, xs)) 100 [.ref r1] H (fun v G => jm_w (some (L, xs)) 49 255 368 [.ref 1, .ref r1, .ref r2, .int x3] (v.toList ++ []) G Q) := (js1 at255_364 rfl rfl rfl).trans (jscall (H := H) (as := [.ref r1]) (q := []) at255_365 rfl rv255i_42 (jscutV rfl rfl rfl (Nat.le_of_ble_eq_true rfl) rfl h0) rfl (Nat.le_of_ble_eq_true rfl) rfl rfl)
theorem at255_368 : jm_at 255 368 = some (.pop) := by decide +kernel
theorem at255_369 : jm_at 255 369 = some (.aload_n 2) := by decide +kernel
theorem at255_370 : jm_at 255 370 = some (.invokevirtual 46) := by decide +kernel
theorem rv255i_46 : jm_rv 255 (.invokevirtual 46) = (2, 222, 0, 0) := by decide +kernel
theorem u255_368 {L : Nat} {xs : Nat → Int32} {H : jm_H} {Q : Option Value → jm_H → Prop} {r1 r2 : Nat} {x3 p0 : Int32} (h0 : jm_tg H r2 = 13) : jm_w (some (L, xs)) 49 255 368 [.ref 1, .ref r1, .ref r2, .int x3] [.int p0] H Q = jm_c (some (L, xs)) 222 [.ref r2] H (fun v G => jm_w (some (L, xs)) 49 255 373 [.ref 1, .ref r1, .ref r2, .int x3] (v.toList ++ []) G Q) := (js0 at255_368 rfl rfl rfl).trans ((js1 at255_369 rfl rfl rfl).trans (jscall (H := H) (as := [.ref r2]) (q := []) at255_370 rfl rv255i_46 (jscutV rfl rfl rfl (Nat.le_of_ble_eq_true rfl) rfl h0) rfl (Nat.le_of_ble_eq_true rfl) rfl rfl))
theorem at255_373 : jm_at 255 373 = some (.pop) := by decide +kernel
theorem at255_374 : jm_at 255 374 = some (.goto 956) := by decide +kernel
theorem u255_373 {L : Nat} {xs : Nat → Int32} {H : jm_H} {Q : Option Value → jm_H → Prop} {r1 r2 : Nat} {x3 p0 : Int32} : jm_w (some (L, xs)) 49 255 373 [.ref 1, .ref r1, .ref r2, .int x3] [.int p0] H Q = jm_w (some (L, xs)) 49 255 1330 [.ref 1, .ref r1, .ref r2, .int x3] [] H Q := (js0 at255_373 rfl rfl rfl).trans (js2 at255_374 rfl rfl)
theorem at255_377 : jm_at 255 377 = some (.aload_n 1) := by decide +kernel
theorem at255_378 : jm_at 255 378 = some (.invokevirtual 47) := by decide +kernel
theorem rv255i_47 : jm_rv 255 (.invokevirtual 47) = (2, 102, 0, 0) := by decide +kernel
theorem u255_377 {L : Nat} {xs : Nat → Int32} {H : jm_H} {Q : Option Value → jm_H → Prop} {r1 r2 : Nat} {x3 : Int32} (h0 : jm_tg H r1 = 12) : jm_w (some (L, xs)) 49 255 377 [.ref 1, .ref r1, .ref r2, .int x3] [] H Q = jm_c (some (L, xs)) 102 [.ref r1] H (fun v G => jm_w (some (L, xs)) 49 255 381 [.ref 1, .ref r1, .ref r2, .int x3] (v.toList ++ []) G Q) := (js1 at255_377 rfl rfl rfl).trans (jscall (H := H) (as := [.ref r1]) (q := []) at255_378 rfl rv255i_47 (jscutV rfl rfl rfl (Nat.le_of_ble_eq_true rfl) rfl h0) rfl (Nat.le_of_ble_eq_true rfl) rfl rfl)
theorem at255_381 : jm_at 255 381 = some (.pop) := by decide +kernel
theorem at255_382 : jm_at 255 382 = some (.aload_n 2) := by decide +kernel
theorem at255_383 : jm_at 255 383 = some (.invokevirtual 50) := by decide +kernel
theorem rv255i_50 : jm_rv 255 (.invokevirtual 50) = (2, 212, 0, 0) := by decide +kernel
theorem u255_381 {L : Nat} {xs : Nat → Int32} {H : jm_H} {Q : Option Value → jm_H → Prop} {r1 r2 : Nat} {x3 p0 : Int32} (h0 : jm_tg H r2 = 13) : jm_w (some (L, xs)) 49 255 381 [.ref 1, .ref r1, .ref r2, .int x3] [.int p0] H Q = jm_c (some (L, xs)) 212 [.ref r2] H (fun v G => jm_w (some (L, xs)) 49 255 386 [.ref 1, .ref r1, .ref r2, .int x3] (v.toList ++ []) G Q) := (js0 at255_381 rfl rfl rfl).trans ((js1 at255_382 rfl rfl rfl).trans (jscall (H := H) (as := [.ref r2]) (q := []) at255_383 rfl rv255i_50 (jscutV rfl rfl rfl (Nat.le_of_ble_eq_true rfl) rfl h0) rfl (Nat.le_of_ble_eq_true rfl) rfl rfl))
theorem at255_386 : jm_at 255 386 = some (.pop) := by decide +kernel
theorem at255_387 : jm_at 255 387 = some (.goto 943) := by decide +kernel
theorem u255_386 {L : Nat} {xs : Nat → Int32} {H : jm_H} {Q : Option Value → jm_H → Prop} {r1 r2 : Nat} {x3 p0 : Int32} : jm_w (some (L, xs)) 49 255 386 [.ref 1, .ref r1, .ref r2, .int x3] [.int p0] H Q = jm_w (some (L, xs)) 49 255 1330 [.ref 1, .ref r1, .ref r2, .int x3] [] H Q := (js0 at255_386 rfl rfl rfl).trans (js2 at255_387 rfl rfl)
theorem at255_390 : jm_at 255 390 = some (.aload_n 1) := by decide +kernel
theorem at255_391 : jm_at 255 391 = some (.aload_n 0) := by decide +kernel
theorem at255_392 : jm_at 255 392 = some (.iload_n 3) := by decide +kernel
theorem at255_393 : jm_at 255 393 = some (.iconst 1) := by decide +kernel
theorem at255_394 : jm_at 255 394 = some (.iadd) := by decide +kernel
theorem at255_395 : jm_at 255 395 = some (.iaload) := by decide +kernel
theorem at255_396 : jm_at 255 396 = some (.aload_n 0) := by decide +kernel
theorem at255_397 : jm_at 255 397 = some (.iload_n 3) := by decide +kernel
theorem at255_398 : jm_at 255 398 = some (.iconst 2) := by decide +kernel
theorem at255_399 : jm_at 255 399 = some (.iadd) := by decide +kernel
theorem at255_400 : jm_at 255 400 = some (.iaload) := by decide +kernel
theorem at255_401 : jm_at 255 401 = some (.aload_n 0) := by decide +kernel
theorem at255_402 : jm_at 255 402 = some (.iload_n 3) := by decide +kernel
theorem at255_403 : jm_at 255 403 = some (.iconst 3) := by decide +kernel
theorem at255_404 : jm_at 255 404 = some (.iadd) := by decide +kernel
theorem at255_405 : jm_at 255 405 = some (.iaload) := by decide +kernel
theorem at255_406 : jm_at 255 406 = some (.aload_n 0) := by decide +kernel
theorem at255_407 : jm_at 255 407 = some (.iload_n 3) := by decide +kernel
theorem at255_408 : jm_at 255 408 = some (.iconst 4) := by decide +kernel
theorem at255_409 : jm_at 255 409 = some (.iadd) := by decide +kernel
theorem at255_410 : jm_at 255 410 = some (.iaload) := by decide +kernel
theorem at255_411 : jm_at 255 411 = some (.invokevirtual 51) := by decide +kernel
theorem rv255i_51 : jm_rv 255 (.invokevirtual 51) = (2, 107, 0, 0) := by decide +kernel
theorem u255_390 {L : Nat} {xs : Nat → Int32} {H : jm_H} {Q : Option Value → jm_H → Prop} {r1 r2 : Nat} {x3 : Int32} (h0 : ¬ ((x3 + (1 : Int32)) < 0 ∨ L ≤ Int32.toNatClampNeg (x3 + (1 : Int32)))) (h1 : ¬ ((x3 + (2 : Int32)) < 0 ∨ L ≤ Int32.toNatClampNeg (x3 + (2 : Int32)))) (h2 : ¬ ((x3 + (3 : Int32)) < 0 ∨ L ≤ Int32.toNatClampNeg (x3 + (3 : Int32)))) (h3 : ¬ ((x3 + (4 : Int32)) < 0 ∨ L ≤ Int32.toNatClampNeg (x3 + (4 : Int32)))) (h4 : jm_tg H r1 = 12) : jm_w (some (L, xs)) 49 255 390 [.ref 1, .ref r1, .ref r2, .int x3] [] H Q = jm_c (some (L, xs)) 107 [.ref r1, .int (xs (Int32.toNatClampNeg (x3 + (1 : Int32)))), .int (xs (Int32.toNatClampNeg (x3 + (2 : Int32)))), .int (xs (Int32.toNatClampNeg (x3 + (3 : Int32)))), .int (xs (Int32.toNatClampNeg (x3 + (4 : Int32))))] H (fun v G => jm_w (some (L, xs)) 49 255 414 [.ref 1, .ref r1, .ref r2, .int x3] (v.toList ++ []) G Q) := (js1 at255_390 rfl rfl rfl).trans ((js1 at255_391 rfl rfl rfl).trans ((js1 at255_392 rfl rfl rfl).trans ((jsci at255_393 rfl rfl).trans ((js0 at255_394 rfl rfl rfl).trans ((jssal (H := H) at255_395 h0 rfl).trans ((js1 at255_396 rfl rfl rfl).trans ((js1 at255_397 rfl rfl rfl).trans ((jsci at255_398 rfl rfl).trans ((js0 at255_399 rfl rfl rfl).trans ((jssal (H := H) at255_400 h1 rfl).trans ((js1 at255_401 rfl rfl rfl).trans ((js1 at255_402 rfl rfl rfl).trans ((jsci at255_403 rfl rfl).trans ((js0 at255_404 rfl rfl rfl).trans ((jssal (H := H) at255_405 h2 rfl).trans ((js1 at255_406 rfl rfl rfl).trans ((js1 at255_407 rfl rfl rfl).trans ((jsci at255_408 rfl rfl).trans ((js0 at255_409 rfl rfl rfl).trans ((jssal (H := H) at255_410 h3 rfl).trans (jscall (H := H) (as := [.ref r1, .int (xs (Int32.toNatClampNeg (x3 + (1 : Int32)))), .int (xs (Int32.toNatClampNeg (x3 + (2 : Int32)))), .int (xs (Int32.toNatClampNeg (x3 + (3 : Int32)))), .int (xs (Int32.toNatClampNeg (x3 + (4 : Int32))))]) (q := []) at255_411 rfl rv255i_51 (jscutV rfl rfl rfl (Nat.le_of_ble_eq_true rfl) rfl h4) rfl (Nat.le_of_ble_eq_true rfl) rfl rfl)))))))))))))))))))))
theorem at255_414 : jm_at 255 414 = some (.pop) := by decide +kernel
theorem at255_415 : jm_at 255 415 = some (.aload_n 2) := by decide +kernel
theorem at255_416 : jm_at 255 416 = some (.aload_n 0) := by decide +kernel
theorem at255_417 : jm_at 255 417 = some (.iload_n 3) := by decide +kernel
theorem at255_418 : jm_at 255 418 = some (.iconst 1) := by decide +kernel
theorem at255_419 : jm_at 255 419 = some (.iadd) := by decide +kernel
theorem at255_420 : jm_at 255 420 = some (.iaload) := by decide +kernel
theorem at255_421 : jm_at 255 421 = some (.aload_n 0) := by decide +kernel
theorem at255_422 : jm_at 255 422 = some (.iload_n 3) := by decide +kernel
theorem at255_423 : jm_at 255 423 = some (.iconst 2) := by decide +kernel
theorem at255_424 : jm_at 255 424 = some (.iadd) := by decide +kernel
theorem at255_425 : jm_at 255 425 = some (.iaload) := by decide +kernel
theorem at255_426 : jm_at 255 426 = some (.aload_n 0) := by decide +kernel
theorem at255_427 : jm_at 255 427 = some (.iload_n 3) := by decide +kernel
theorem at255_428 : jm_at 255 428 = some (.iconst 3) := by decide +kernel
theorem at255_429 : jm_at 255 429 = some (.iadd) := by decide +kernel
theorem at255_430 : jm_at 255 430 = some (.iaload) := by decide +kernel
theorem at255_431 : jm_at 255 431 = some (.aload_n 0) := by decide +kernel
theorem at255_432 : jm_at 255 432 = some (.iload_n 3) := by decide +kernel
theorem at255_433 : jm_at 255 433 = some (.iconst 4) := by decide +kernel
theorem at255_434 : jm_at 255 434 = some (.iadd) := by decide +kernel
theorem at255_435 : jm_at 255 435 = some (.iaload) := by decide +kernel
theorem at255_436 : jm_at 255 436 = some (.invokevirtual 55) := by decide +kernel
theorem rv255i_55 : jm_rv 255 (.invokevirtual 55) = (2, 233, 0, 0) := by decide +kernel
theorem u255_414 {L : Nat} {xs : Nat → Int32} {H : jm_H} {Q : Option Value → jm_H → Prop} {r1 r2 : Nat} {x3 p0 : Int32} (h0 : ¬ ((x3 + (1 : Int32)) < 0 ∨ L ≤ Int32.toNatClampNeg (x3 + (1 : Int32)))) (h1 : ¬ ((x3 + (2 : Int32)) < 0 ∨ L ≤ Int32.toNatClampNeg (x3 + (2 : Int32)))) (h2 : ¬ ((x3 + (3 : Int32)) < 0 ∨ L ≤ Int32.toNatClampNeg (x3 + (3 : Int32)))) (h3 : ¬ ((x3 + (4 : Int32)) < 0 ∨ L ≤ Int32.toNatClampNeg (x3 + (4 : Int32)))) (h4 : jm_tg H r2 = 13) : jm_w (some (L, xs)) 49 255 414 [.ref 1, .ref r1, .ref r2, .int x3] [.int p0] H Q = jm_c (some (L, xs)) 233 [.ref r2, .int (xs (Int32.toNatClampNeg (x3 + (1 : Int32)))), .int (xs (Int32.toNatClampNeg (x3 + (2 : Int32)))), .int (xs (Int32.toNatClampNeg (x3 + (3 : Int32)))), .int (xs (Int32.toNatClampNeg (x3 + (4 : Int32))))] H (fun v G => jm_w (some (L, xs)) 49 255 439 [.ref 1, .ref r1, .ref r2, .int x3] (v.toList ++ []) G Q) := (js0 at255_414 rfl rfl rfl).trans ((js1 at255_415 rfl rfl rfl).trans ((js1 at255_416 rfl rfl rfl).trans ((js1 at255_417 rfl rfl rfl).trans ((jsci at255_418 rfl rfl).trans ((js0 at255_419 rfl rfl rfl).trans ((jssal (H := H) at255_420 h0 rfl).trans ((js1 at255_421 rfl rfl rfl).trans ((js1 at255_422 rfl rfl rfl).trans ((jsci at255_423 rfl rfl).trans ((js0 at255_424 rfl rfl rfl).trans ((jssal (H := H) at255_425 h1 rfl).trans ((js1 at255_426 rfl rfl rfl).trans ((js1 at255_427 rfl rfl rfl).trans ((jsci at255_428 rfl rfl).trans ((js0 at255_429 rfl rfl rfl).trans ((jssal (H := H) at255_430 h2 rfl).trans ((js1 at255_431 rfl rfl rfl).trans ((js1 at255_432 rfl rfl rfl).trans ((jsci at255_433 rfl rfl).trans ((js0 at255_434 rfl rfl rfl).trans ((jssal (H := H) at255_435 h3 rfl).trans (jscall (H := H) (as := [.ref r2, .int (xs (Int32.toNatClampNeg (x3 + (1 : Int32)))), .int (xs (Int32.toNatClampNeg (x3 + (2 : Int32)))), .int (xs (Int32.toNatClampNeg (x3 + (3 : Int32)))), .int (xs (Int32.toNatClampNeg (x3 + (4 : Int32))))]) (q := []) at255_436 rfl rv255i_55 (jscutV rfl rfl rfl (Nat.le_of_ble_eq_true rfl) rfl h4) rfl (Nat.le_of_ble_eq_true rfl) rfl rfl))))))))))))))))))))))
theorem at255_439 : jm_at 255 439 = some (.pop) := by decide +kernel
theorem at255_440 : jm_at 255 440 = some (.goto 890) := by decide +kernel
theorem u255_439 {L : Nat} {xs : Nat → Int32} {H : jm_H} {Q : Option Value → jm_H → Prop} {r1 r2 : Nat} {x3 p0 : Int32} : jm_w (some (L, xs)) 49 255 439 [.ref 1, .ref r1, .ref r2, .int x3] [.int p0] H Q = jm_w (some (L, xs)) 49 255 1330 [.ref 1, .ref r1, .ref r2, .int x3] [] H Q := (js0 at255_439 rfl rfl rfl).trans (js2 at255_440 rfl rfl)
theorem at255_443 : jm_at 255 443 = some (.aload_n 1) := by decide +kernel
theorem at255_444 : jm_at 255 444 = some (.aload_n 0) := by decide +kernel
theorem at255_445 : jm_at 255 445 = some (.iload_n 3) := by decide +kernel
theorem at255_446 : jm_at 255 446 = some (.iconst 1) := by decide +kernel
theorem at255_447 : jm_at 255 447 = some (.iadd) := by decide +kernel
theorem at255_448 : jm_at 255 448 = some (.iaload) := by decide +kernel
theorem at255_449 : jm_at 255 449 = some (.aload_n 0) := by decide +kernel
theorem at255_450 : jm_at 255 450 = some (.iload_n 3) := by decide +kernel
theorem at255_451 : jm_at 255 451 = some (.iconst 2) := by decide +kernel
theorem at255_452 : jm_at 255 452 = some (.iadd) := by decide +kernel
theorem at255_453 : jm_at 255 453 = some (.iaload) := by decide +kernel
theorem at255_454 : jm_at 255 454 = some (.aload_n 0) := by decide +kernel
theorem at255_455 : jm_at 255 455 = some (.iload_n 3) := by decide +kernel
theorem at255_456 : jm_at 255 456 = some (.iconst 3) := by decide +kernel
theorem at255_457 : jm_at 255 457 = some (.iadd) := by decide +kernel
theorem at255_458 : jm_at 255 458 = some (.iaload) := by decide +kernel
theorem at255_459 : jm_at 255 459 = some (.aload_n 0) := by decide +kernel
theorem at255_460 : jm_at 255 460 = some (.iload_n 3) := by decide +kernel
theorem at255_461 : jm_at 255 461 = some (.iconst 4) := by decide +kernel
theorem at255_462 : jm_at 255 462 = some (.iadd) := by decide +kernel
theorem at255_463 : jm_at 255 463 = some (.iaload) := by decide +kernel
theorem at255_464 : jm_at 255 464 = some (.aload_n 0) := by decide +kernel
theorem at255_465 : jm_at 255 465 = some (.iload_n 3) := by decide +kernel
theorem at255_466 : jm_at 255 466 = some (.iconst 5) := by decide +kernel
theorem at255_467 : jm_at 255 467 = some (.iadd) := by decide +kernel
theorem at255_468 : jm_at 255 468 = some (.iaload) := by decide +kernel
theorem at255_469 : jm_at 255 469 = some (.invokevirtual 56) := by decide +kernel
theorem rv255i_56 : jm_rv 255 (.invokevirtual 56) = (2, 129, 0, 0) := by decide +kernel
theorem u255_443 {L : Nat} {xs : Nat → Int32} {H : jm_H} {Q : Option Value → jm_H → Prop} {r1 r2 : Nat} {x3 : Int32} (h0 : ¬ ((x3 + (1 : Int32)) < 0 ∨ L ≤ Int32.toNatClampNeg (x3 + (1 : Int32)))) (h1 : ¬ ((x3 + (2 : Int32)) < 0 ∨ L ≤ Int32.toNatClampNeg (x3 + (2 : Int32)))) (h2 : ¬ ((x3 + (3 : Int32)) < 0 ∨ L ≤ Int32.toNatClampNeg (x3 + (3 : Int32)))) (h3 : ¬ ((x3 + (4 : Int32)) < 0 ∨ L ≤ Int32.toNatClampNeg (x3 + (4 : Int32)))) (h4 : ¬ ((x3 + (5 : Int32)) < 0 ∨ L ≤ Int32.toNatClampNeg (x3 + (5 : Int32)))) (h5 : jm_tg H r1 = 12) : jm_w (some (L, xs)) 49 255 443 [.ref 1, .ref r1, .ref r2, .int x3] [] H Q = jm_c (some (L, xs)) 129 [.ref r1, .int (xs (Int32.toNatClampNeg (x3 + (1 : Int32)))), .int (xs (Int32.toNatClampNeg (x3 + (2 : Int32)))), .int (xs (Int32.toNatClampNeg (x3 + (3 : Int32)))), .int (xs (Int32.toNatClampNeg (x3 + (4 : Int32)))), .int (xs (Int32.toNatClampNeg (x3 + (5 : Int32))))] H (fun v G => jm_w (some (L, xs)) 49 255 472 [.ref 1, .ref r1, .ref r2, .int x3] (v.toList ++ []) G Q) := (js1 at255_443 rfl rfl rfl).trans ((js1 at255_444 rfl rfl rfl).trans ((js1 at255_445 rfl rfl rfl).trans ((jsci at255_446 rfl rfl).trans ((js0 at255_447 rfl rfl rfl).trans ((jssal (H := H) at255_448 h0 rfl).trans ((js1 at255_449 rfl rfl rfl).trans ((js1 at255_450 rfl rfl rfl).trans ((jsci at255_451 rfl rfl).trans ((js0 at255_452 rfl rfl rfl).trans ((jssal (H := H) at255_453 h1 rfl).trans ((js1 at255_454 rfl rfl rfl).trans ((js1 at255_455 rfl rfl rfl).trans ((jsci at255_456 rfl rfl).trans ((js0 at255_457 rfl rfl rfl).trans ((jssal (H := H) at255_458 h2 rfl).trans ((js1 at255_459 rfl rfl rfl).trans ((js1 at255_460 rfl rfl rfl).trans ((jsci at255_461 rfl rfl).trans ((js0 at255_462 rfl rfl rfl).trans ((jssal (H := H) at255_463 h3 rfl).trans ((js1 at255_464 rfl rfl rfl).trans ((js1 at255_465 rfl rfl rfl).trans ((jsci at255_466 rfl rfl).trans ((js0 at255_467 rfl rfl rfl).trans ((jssal (H := H) at255_468 h4 rfl).trans (jscall (H := H) (as := [.ref r1, .int (xs (Int32.toNatClampNeg (x3 + (1 : Int32)))), .int (xs (Int32.toNatClampNeg (x3 + (2 : Int32)))), .int (xs (Int32.toNatClampNeg (x3 + (3 : Int32)))), .int (xs (Int32.toNatClampNeg (x3 + (4 : Int32)))), .int (xs (Int32.toNatClampNeg (x3 + (5 : Int32))))]) (q := []) at255_469 rfl rv255i_56 (jscutV rfl rfl rfl (Nat.le_of_ble_eq_true rfl) rfl h5) rfl (Nat.le_of_ble_eq_true rfl) rfl rfl))))))))))))))))))))))))))
theorem at255_472 : jm_at 255 472 = some (.pop) := by decide +kernel
theorem at255_473 : jm_at 255 473 = some (.aload_n 2) := by decide +kernel
theorem at255_474 : jm_at 255 474 = some (.aload_n 0) := by decide +kernel
theorem at255_475 : jm_at 255 475 = some (.iload_n 3) := by decide +kernel
theorem at255_476 : jm_at 255 476 = some (.iconst 1) := by decide +kernel
theorem at255_477 : jm_at 255 477 = some (.iadd) := by decide +kernel
theorem at255_478 : jm_at 255 478 = some (.iaload) := by decide +kernel
theorem at255_479 : jm_at 255 479 = some (.aload_n 0) := by decide +kernel
theorem at255_480 : jm_at 255 480 = some (.iload_n 3) := by decide +kernel
theorem at255_481 : jm_at 255 481 = some (.iconst 2) := by decide +kernel
theorem at255_482 : jm_at 255 482 = some (.iadd) := by decide +kernel
theorem at255_483 : jm_at 255 483 = some (.iaload) := by decide +kernel
theorem at255_484 : jm_at 255 484 = some (.aload_n 0) := by decide +kernel
theorem at255_485 : jm_at 255 485 = some (.iload_n 3) := by decide +kernel
theorem at255_486 : jm_at 255 486 = some (.iconst 3) := by decide +kernel
theorem at255_487 : jm_at 255 487 = some (.iadd) := by decide +kernel
theorem at255_488 : jm_at 255 488 = some (.iaload) := by decide +kernel
theorem at255_489 : jm_at 255 489 = some (.aload_n 0) := by decide +kernel
theorem at255_490 : jm_at 255 490 = some (.iload_n 3) := by decide +kernel
theorem at255_491 : jm_at 255 491 = some (.iconst 4) := by decide +kernel
theorem at255_492 : jm_at 255 492 = some (.iadd) := by decide +kernel
theorem at255_493 : jm_at 255 493 = some (.iaload) := by decide +kernel
theorem at255_494 : jm_at 255 494 = some (.aload_n 0) := by decide +kernel
theorem at255_495 : jm_at 255 495 = some (.iload_n 3) := by decide +kernel
theorem at255_496 : jm_at 255 496 = some (.iconst 5) := by decide +kernel
theorem at255_497 : jm_at 255 497 = some (.iadd) := by decide +kernel
theorem at255_498 : jm_at 255 498 = some (.iaload) := by decide +kernel
theorem at255_499 : jm_at 255 499 = some (.invokevirtual 59) := by decide +kernel
theorem rv255i_59 : jm_rv 255 (.invokevirtual 59) = (2, 223, 0, 0) := by decide +kernel
theorem u255_472 {L : Nat} {xs : Nat → Int32} {H : jm_H} {Q : Option Value → jm_H → Prop} {r1 r2 : Nat} {x3 p0 : Int32} (h0 : ¬ ((x3 + (1 : Int32)) < 0 ∨ L ≤ Int32.toNatClampNeg (x3 + (1 : Int32)))) (h1 : ¬ ((x3 + (2 : Int32)) < 0 ∨ L ≤ Int32.toNatClampNeg (x3 + (2 : Int32)))) (h2 : ¬ ((x3 + (3 : Int32)) < 0 ∨ L ≤ Int32.toNatClampNeg (x3 + (3 : Int32)))) (h3 : ¬ ((x3 + (4 : Int32)) < 0 ∨ L ≤ Int32.toNatClampNeg (x3 + (4 : Int32)))) (h4 : ¬ ((x3 + (5 : Int32)) < 0 ∨ L ≤ Int32.toNatClampNeg (x3 + (5 : Int32)))) (h5 : jm_tg H r2 = 13) : jm_w (some (L, xs)) 49 255 472 [.ref 1, .ref r1, .ref r2, .int x3] [.int p0] H Q = jm_c (some (L, xs)) 223 [.ref r2, .int (xs (Int32.toNatClampNeg (x3 + (1 : Int32)))), .int (xs (Int32.toNatClampNeg (x3 + (2 : Int32)))), .int (xs (Int32.toNatClampNeg (x3 + (3 : Int32)))), .int (xs (Int32.toNatClampNeg (x3 + (4 : Int32)))), .int (xs (Int32.toNatClampNeg (x3 + (5 : Int32))))] H (fun v G => jm_w (some (L, xs)) 49 255 502 [.ref 1, .ref r1, .ref r2, .int x3] (v.toList ++ []) G Q) := (js0 at255_472 rfl rfl rfl).trans ((js1 at255_473 rfl rfl rfl).trans ((js1 at255_474 rfl rfl rfl).trans ((js1 at255_475 rfl rfl rfl).trans ((jsci at255_476 rfl rfl).trans ((js0 at255_477 rfl rfl rfl).trans ((jssal (H := H) at255_478 h0 rfl).trans ((js1 at255_479 rfl rfl rfl).trans ((js1 at255_480 rfl rfl rfl).trans ((jsci at255_481 rfl rfl).trans ((js0 at255_482 rfl rfl rfl).trans ((jssal (H := H) at255_483 h1 rfl).trans ((js1 at255_484 rfl rfl rfl).trans ((js1 at255_485 rfl rfl rfl).trans ((jsci at255_486 rfl rfl).trans ((js0 at255_487 rfl rfl rfl).trans ((jssal (H := H) at255_488 h2 rfl).trans ((js1 at255_489 rfl rfl rfl).trans ((js1 at255_490 rfl rfl rfl).trans ((jsci at255_491 rfl rfl).trans ((js0 at255_492 rfl rfl rfl).trans ((jssal (H := H) at255_493 h3 rfl).trans ((js1 at255_494 rfl rfl rfl).trans ((js1 at255_495 rfl rfl rfl).trans ((jsci at255_496 rfl rfl).trans ((js0 at255_497 rfl rfl rfl).trans ((jssal (H := H) at255_498 h4 rfl).trans (jscall (H := H) (as := [.ref r2, .int (xs (Int32.toNatClampNeg (x3 + (1 : Int32)))), .int (xs (Int32.toNatClampNeg (x3 + (2 : Int32)))), .int (xs (Int32.toNatClampNeg (x3 + (3 : Int32)))), .int (xs (Int32.toNatClampNeg (x3 + (4 : Int32)))), .int (xs (Int32.toNatClampNeg (x3 + (5 : Int32))))]) (q := []) at255_499 rfl rv255i_59 (jscutV rfl rfl rfl (Nat.le_of_ble_eq_true rfl) rfl h5) rfl (Nat.le_of_ble_eq_true rfl) rfl rfl)))))))))))))))))))))))))))
theorem at255_502 : jm_at 255 502 = some (.pop) := by decide +kernel
theorem at255_503 : jm_at 255 503 = some (.goto 827) := by decide +kernel
theorem u255_502 {L : Nat} {xs : Nat → Int32} {H : jm_H} {Q : Option Value → jm_H → Prop} {r1 r2 : Nat} {x3 p0 : Int32} : jm_w (some (L, xs)) 49 255 502 [.ref 1, .ref r1, .ref r2, .int x3] [.int p0] H Q = jm_w (some (L, xs)) 49 255 1330 [.ref 1, .ref r1, .ref r2, .int x3] [] H Q := (js0 at255_502 rfl rfl rfl).trans (js2 at255_503 rfl rfl)
theorem at255_506 : jm_at 255 506 = some (.aload_n 1) := by decide +kernel
theorem at255_507 : jm_at 255 507 = some (.aload_n 0) := by decide +kernel
theorem at255_508 : jm_at 255 508 = some (.iload_n 3) := by decide +kernel
theorem at255_509 : jm_at 255 509 = some (.iconst 1) := by decide +kernel
theorem at255_510 : jm_at 255 510 = some (.iadd) := by decide +kernel
theorem at255_511 : jm_at 255 511 = some (.iaload) := by decide +kernel
theorem at255_512 : jm_at 255 512 = some (.aload_n 0) := by decide +kernel
theorem at255_513 : jm_at 255 513 = some (.iload_n 3) := by decide +kernel
theorem at255_514 : jm_at 255 514 = some (.iconst 2) := by decide +kernel
theorem at255_515 : jm_at 255 515 = some (.iadd) := by decide +kernel
theorem at255_516 : jm_at 255 516 = some (.iaload) := by decide +kernel
theorem at255_517 : jm_at 255 517 = some (.aload_n 0) := by decide +kernel
theorem at255_518 : jm_at 255 518 = some (.iload_n 3) := by decide +kernel
theorem at255_519 : jm_at 255 519 = some (.iconst 3) := by decide +kernel
theorem at255_520 : jm_at 255 520 = some (.iadd) := by decide +kernel
theorem at255_521 : jm_at 255 521 = some (.iaload) := by decide +kernel
theorem at255_522 : jm_at 255 522 = some (.aload_n 0) := by decide +kernel
theorem at255_523 : jm_at 255 523 = some (.iload_n 3) := by decide +kernel
theorem at255_524 : jm_at 255 524 = some (.iconst 4) := by decide +kernel
theorem at255_525 : jm_at 255 525 = some (.iadd) := by decide +kernel
theorem at255_526 : jm_at 255 526 = some (.iaload) := by decide +kernel
theorem at255_527 : jm_at 255 527 = some (.aload_n 0) := by decide +kernel
theorem at255_528 : jm_at 255 528 = some (.iload_n 3) := by decide +kernel
theorem at255_529 : jm_at 255 529 = some (.iconst 5) := by decide +kernel
theorem at255_530 : jm_at 255 530 = some (.iadd) := by decide +kernel
theorem at255_531 : jm_at 255 531 = some (.iaload) := by decide +kernel
theorem at255_532 : jm_at 255 532 = some (.invokevirtual 60) := by decide +kernel
theorem rv255i_60 : jm_rv 255 (.invokevirtual 60) = (2, 130, 0, 0) := by decide +kernel
theorem u255_506 {L : Nat} {xs : Nat → Int32} {H : jm_H} {Q : Option Value → jm_H → Prop} {r1 r2 : Nat} {x3 : Int32} (h0 : ¬ ((x3 + (1 : Int32)) < 0 ∨ L ≤ Int32.toNatClampNeg (x3 + (1 : Int32)))) (h1 : ¬ ((x3 + (2 : Int32)) < 0 ∨ L ≤ Int32.toNatClampNeg (x3 + (2 : Int32)))) (h2 : ¬ ((x3 + (3 : Int32)) < 0 ∨ L ≤ Int32.toNatClampNeg (x3 + (3 : Int32)))) (h3 : ¬ ((x3 + (4 : Int32)) < 0 ∨ L ≤ Int32.toNatClampNeg (x3 + (4 : Int32)))) (h4 : ¬ ((x3 + (5 : Int32)) < 0 ∨ L ≤ Int32.toNatClampNeg (x3 + (5 : Int32)))) (h5 : jm_tg H r1 = 12) : jm_w (some (L, xs)) 49 255 506 [.ref 1, .ref r1, .ref r2, .int x3] [] H Q = jm_c (some (L, xs)) 130 [.ref r1, .int (xs (Int32.toNatClampNeg (x3 + (1 : Int32)))), .int (xs (Int32.toNatClampNeg (x3 + (2 : Int32)))), .int (xs (Int32.toNatClampNeg (x3 + (3 : Int32)))), .int (xs (Int32.toNatClampNeg (x3 + (4 : Int32)))), .int (xs (Int32.toNatClampNeg (x3 + (5 : Int32))))] H (fun v G => jm_w (some (L, xs)) 49 255 535 [.ref 1, .ref r1, .ref r2, .int x3] (v.toList ++ []) G Q) := (js1 at255_506 rfl rfl rfl).trans ((js1 at255_507 rfl rfl rfl).trans ((js1 at255_508 rfl rfl rfl).trans ((jsci at255_509 rfl rfl).trans ((js0 at255_510 rfl rfl rfl).trans ((jssal (H := H) at255_511 h0 rfl).trans ((js1 at255_512 rfl rfl rfl).trans ((js1 at255_513 rfl rfl rfl).trans ((jsci at255_514 rfl rfl).trans ((js0 at255_515 rfl rfl rfl).trans ((jssal (H := H) at255_516 h1 rfl).trans ((js1 at255_517 rfl rfl rfl).trans ((js1 at255_518 rfl rfl rfl).trans ((jsci at255_519 rfl rfl).trans ((js0 at255_520 rfl rfl rfl).trans ((jssal (H := H) at255_521 h2 rfl).trans ((js1 at255_522 rfl rfl rfl).trans ((js1 at255_523 rfl rfl rfl).trans ((jsci at255_524 rfl rfl).trans ((js0 at255_525 rfl rfl rfl).trans ((jssal (H := H) at255_526 h3 rfl).trans ((js1 at255_527 rfl rfl rfl).trans ((js1 at255_528 rfl rfl rfl).trans ((jsci at255_529 rfl rfl).trans ((js0 at255_530 rfl rfl rfl).trans ((jssal (H := H) at255_531 h4 rfl).trans (jscall (H := H) (as := [.ref r1, .int (xs (Int32.toNatClampNeg (x3 + (1 : Int32)))), .int (xs (Int32.toNatClampNeg (x3 + (2 : Int32)))), .int (xs (Int32.toNatClampNeg (x3 + (3 : Int32)))), .int (xs (Int32.toNatClampNeg (x3 + (4 : Int32)))), .int (xs (Int32.toNatClampNeg (x3 + (5 : Int32))))]) (q := []) at255_532 rfl rv255i_60 (jscutV rfl rfl rfl (Nat.le_of_ble_eq_true rfl) rfl h5) rfl (Nat.le_of_ble_eq_true rfl) rfl rfl))))))))))))))))))))))))))
theorem at255_535 : jm_at 255 535 = some (.pop) := by decide +kernel
theorem at255_536 : jm_at 255 536 = some (.aload_n 2) := by decide +kernel
theorem at255_537 : jm_at 255 537 = some (.aload_n 0) := by decide +kernel
theorem at255_538 : jm_at 255 538 = some (.iload_n 3) := by decide +kernel
theorem at255_539 : jm_at 255 539 = some (.iconst 1) := by decide +kernel
theorem at255_540 : jm_at 255 540 = some (.iadd) := by decide +kernel
theorem at255_541 : jm_at 255 541 = some (.iaload) := by decide +kernel
theorem at255_542 : jm_at 255 542 = some (.aload_n 0) := by decide +kernel
theorem at255_543 : jm_at 255 543 = some (.iload_n 3) := by decide +kernel
theorem at255_544 : jm_at 255 544 = some (.iconst 2) := by decide +kernel
theorem at255_545 : jm_at 255 545 = some (.iadd) := by decide +kernel
theorem at255_546 : jm_at 255 546 = some (.iaload) := by decide +kernel
theorem at255_547 : jm_at 255 547 = some (.aload_n 0) := by decide +kernel
theorem at255_548 : jm_at 255 548 = some (.iload_n 3) := by decide +kernel
theorem at255_549 : jm_at 255 549 = some (.iconst 3) := by decide +kernel
theorem at255_550 : jm_at 255 550 = some (.iadd) := by decide +kernel
theorem at255_551 : jm_at 255 551 = some (.iaload) := by decide +kernel
theorem at255_552 : jm_at 255 552 = some (.aload_n 0) := by decide +kernel
theorem at255_553 : jm_at 255 553 = some (.iload_n 3) := by decide +kernel
theorem at255_554 : jm_at 255 554 = some (.iconst 4) := by decide +kernel
theorem at255_555 : jm_at 255 555 = some (.iadd) := by decide +kernel
theorem at255_556 : jm_at 255 556 = some (.iaload) := by decide +kernel
theorem at255_557 : jm_at 255 557 = some (.aload_n 0) := by decide +kernel
theorem at255_558 : jm_at 255 558 = some (.iload_n 3) := by decide +kernel
theorem at255_559 : jm_at 255 559 = some (.iconst 5) := by decide +kernel
theorem at255_560 : jm_at 255 560 = some (.iadd) := by decide +kernel
theorem at255_561 : jm_at 255 561 = some (.iaload) := by decide +kernel
theorem at255_562 : jm_at 255 562 = some (.invokevirtual 63) := by decide +kernel
theorem rv255i_63 : jm_rv 255 (.invokevirtual 63) = (2, 224, 0, 0) := by decide +kernel
theorem u255_535 {L : Nat} {xs : Nat → Int32} {H : jm_H} {Q : Option Value → jm_H → Prop} {r1 r2 : Nat} {x3 p0 : Int32} (h0 : ¬ ((x3 + (1 : Int32)) < 0 ∨ L ≤ Int32.toNatClampNeg (x3 + (1 : Int32)))) (h1 : ¬ ((x3 + (2 : Int32)) < 0 ∨ L ≤ Int32.toNatClampNeg (x3 + (2 : Int32)))) (h2 : ¬ ((x3 + (3 : Int32)) < 0 ∨ L ≤ Int32.toNatClampNeg (x3 + (3 : Int32)))) (h3 : ¬ ((x3 + (4 : Int32)) < 0 ∨ L ≤ Int32.toNatClampNeg (x3 + (4 : Int32)))) (h4 : ¬ ((x3 + (5 : Int32)) < 0 ∨ L ≤ Int32.toNatClampNeg (x3 + (5 : Int32)))) (h5 : jm_tg H r2 = 13) : jm_w (some (L, xs)) 49 255 535 [.ref 1, .ref r1, .ref r2, .int x3] [.int p0] H Q = jm_c (some (L, xs)) 224 [.ref r2, .int (xs (Int32.toNatClampNeg (x3 + (1 : Int32)))), .int (xs (Int32.toNatClampNeg (x3 + (2 : Int32)))), .int (xs (Int32.toNatClampNeg (x3 + (3 : Int32)))), .int (xs (Int32.toNatClampNeg (x3 + (4 : Int32)))), .int (xs (Int32.toNatClampNeg (x3 + (5 : Int32))))] H (fun v G => jm_w (some (L, xs)) 49 255 565 [.ref 1, .ref r1, .ref r2, .int x3] (v.toList ++ []) G Q) := (js0 at255_535 rfl rfl rfl).trans ((js1 at255_536 rfl rfl rfl).trans ((js1 at255_537 rfl rfl rfl).trans ((js1 at255_538 rfl rfl rfl).trans ((jsci at255_539 rfl rfl).trans ((js0 at255_540 rfl rfl rfl).trans ((jssal (H := H) at255_541 h0 rfl).trans ((js1 at255_542 rfl rfl rfl).trans ((js1 at255_543 rfl rfl rfl).trans ((jsci at255_544 rfl rfl).trans ((js0 at255_545 rfl rfl rfl).trans ((jssal (H := H) at255_546 h1 rfl).trans ((js1 at255_547 rfl rfl rfl).trans ((js1 at255_548 rfl rfl rfl).trans ((jsci at255_549 rfl rfl).trans ((js0 at255_550 rfl rfl rfl).trans ((jssal (H := H) at255_551 h2 rfl).trans ((js1 at255_552 rfl rfl rfl).trans ((js1 at255_553 rfl rfl rfl).trans ((jsci at255_554 rfl rfl).trans ((js0 at255_555 rfl rfl rfl).trans ((jssal (H := H) at255_556 h3 rfl).trans ((js1 at255_557 rfl rfl rfl).trans ((js1 at255_558 rfl rfl rfl).trans ((jsci at255_559 rfl rfl).trans ((js0 at255_560 rfl rfl rfl).trans ((jssal (H := H) at255_561 h4 rfl).trans (jscall (H := H) (as := [.ref r2, .int (xs (Int32.toNatClampNeg (x3 + (1 : Int32)))), .int (xs (Int32.toNatClampNeg (x3 + (2 : Int32)))), .int (xs (Int32.toNatClampNeg (x3 + (3 : Int32)))), .int (xs (Int32.toNatClampNeg (x3 + (4 : Int32)))), .int (xs (Int32.toNatClampNeg (x3 + (5 : Int32))))]) (q := []) at255_562 rfl rv255i_63 (jscutV rfl rfl rfl (Nat.le_of_ble_eq_true rfl) rfl h5) rfl (Nat.le_of_ble_eq_true rfl) rfl rfl)))))))))))))))))))))))))))
theorem at255_565 : jm_at 255 565 = some (.pop) := by decide +kernel
theorem at255_566 : jm_at 255 566 = some (.goto 764) := by decide +kernel
theorem u255_565 {L : Nat} {xs : Nat → Int32} {H : jm_H} {Q : Option Value → jm_H → Prop} {r1 r2 : Nat} {x3 p0 : Int32} : jm_w (some (L, xs)) 49 255 565 [.ref 1, .ref r1, .ref r2, .int x3] [.int p0] H Q = jm_w (some (L, xs)) 49 255 1330 [.ref 1, .ref r1, .ref r2, .int x3] [] H Q := (js0 at255_565 rfl rfl rfl).trans (js2 at255_566 rfl rfl)
theorem at255_569 : jm_at 255 569 = some (.aload_n 1) := by decide +kernel
theorem at255_570 : jm_at 255 570 = some (.aload_n 0) := by decide +kernel
theorem at255_571 : jm_at 255 571 = some (.iload_n 3) := by decide +kernel
theorem at255_572 : jm_at 255 572 = some (.iconst 1) := by decide +kernel
theorem at255_573 : jm_at 255 573 = some (.iadd) := by decide +kernel
theorem at255_574 : jm_at 255 574 = some (.iaload) := by decide +kernel
theorem at255_575 : jm_at 255 575 = some (.aload_n 0) := by decide +kernel
theorem at255_576 : jm_at 255 576 = some (.iload_n 3) := by decide +kernel
theorem at255_577 : jm_at 255 577 = some (.iconst 2) := by decide +kernel
theorem at255_578 : jm_at 255 578 = some (.iadd) := by decide +kernel
theorem at255_579 : jm_at 255 579 = some (.iaload) := by decide +kernel
theorem at255_580 : jm_at 255 580 = some (.aload_n 0) := by decide +kernel
theorem at255_581 : jm_at 255 581 = some (.iload_n 3) := by decide +kernel
theorem at255_582 : jm_at 255 582 = some (.iconst 3) := by decide +kernel
theorem at255_583 : jm_at 255 583 = some (.iadd) := by decide +kernel
theorem at255_584 : jm_at 255 584 = some (.iaload) := by decide +kernel
theorem at255_585 : jm_at 255 585 = some (.invokevirtual 64) := by decide +kernel
theorem rv255i_64 : jm_rv 255 (.invokevirtual 64) = (2, 131, 0, 0) := by decide +kernel
theorem u255_569 {L : Nat} {xs : Nat → Int32} {H : jm_H} {Q : Option Value → jm_H → Prop} {r1 r2 : Nat} {x3 : Int32} (h0 : ¬ ((x3 + (1 : Int32)) < 0 ∨ L ≤ Int32.toNatClampNeg (x3 + (1 : Int32)))) (h1 : ¬ ((x3 + (2 : Int32)) < 0 ∨ L ≤ Int32.toNatClampNeg (x3 + (2 : Int32)))) (h2 : ¬ ((x3 + (3 : Int32)) < 0 ∨ L ≤ Int32.toNatClampNeg (x3 + (3 : Int32)))) (h3 : jm_tg H r1 = 12) : jm_w (some (L, xs)) 49 255 569 [.ref 1, .ref r1, .ref r2, .int x3] [] H Q = jm_c (some (L, xs)) 131 [.ref r1, .int (xs (Int32.toNatClampNeg (x3 + (1 : Int32)))), .int (xs (Int32.toNatClampNeg (x3 + (2 : Int32)))), .int (xs (Int32.toNatClampNeg (x3 + (3 : Int32))))] H (fun v G => jm_w (some (L, xs)) 49 255 588 [.ref 1, .ref r1, .ref r2, .int x3] (v.toList ++ []) G Q) := (js1 at255_569 rfl rfl rfl).trans ((js1 at255_570 rfl rfl rfl).trans ((js1 at255_571 rfl rfl rfl).trans ((jsci at255_572 rfl rfl).trans ((js0 at255_573 rfl rfl rfl).trans ((jssal (H := H) at255_574 h0 rfl).trans ((js1 at255_575 rfl rfl rfl).trans ((js1 at255_576 rfl rfl rfl).trans ((jsci at255_577 rfl rfl).trans ((js0 at255_578 rfl rfl rfl).trans ((jssal (H := H) at255_579 h1 rfl).trans ((js1 at255_580 rfl rfl rfl).trans ((js1 at255_581 rfl rfl rfl).trans ((jsci at255_582 rfl rfl).trans ((js0 at255_583 rfl rfl rfl).trans ((jssal (H := H) at255_584 h2 rfl).trans (jscall (H := H) (as := [.ref r1, .int (xs (Int32.toNatClampNeg (x3 + (1 : Int32)))), .int (xs (Int32.toNatClampNeg (x3 + (2 : Int32)))), .int (xs (Int32.toNatClampNeg (x3 + (3 : Int32))))]) (q := []) at255_585 rfl rv255i_64 (jscutV rfl rfl rfl (Nat.le_of_ble_eq_true rfl) rfl h3) rfl (Nat.le_of_ble_eq_true rfl) rfl rfl))))))))))))))))
theorem at255_588 : jm_at 255 588 = some (.pop) := by decide +kernel
theorem at255_589 : jm_at 255 589 = some (.aload_n 2) := by decide +kernel
theorem at255_590 : jm_at 255 590 = some (.aload_n 0) := by decide +kernel
theorem at255_591 : jm_at 255 591 = some (.iload_n 3) := by decide +kernel
theorem at255_592 : jm_at 255 592 = some (.iconst 1) := by decide +kernel
theorem at255_593 : jm_at 255 593 = some (.iadd) := by decide +kernel
theorem at255_594 : jm_at 255 594 = some (.iaload) := by decide +kernel
theorem at255_595 : jm_at 255 595 = some (.aload_n 0) := by decide +kernel
theorem at255_596 : jm_at 255 596 = some (.iload_n 3) := by decide +kernel
theorem at255_597 : jm_at 255 597 = some (.iconst 2) := by decide +kernel
theorem at255_598 : jm_at 255 598 = some (.iadd) := by decide +kernel
theorem at255_599 : jm_at 255 599 = some (.iaload) := by decide +kernel
theorem at255_600 : jm_at 255 600 = some (.aload_n 0) := by decide +kernel
theorem at255_601 : jm_at 255 601 = some (.iload_n 3) := by decide +kernel
theorem at255_602 : jm_at 255 602 = some (.iconst 3) := by decide +kernel
theorem at255_603 : jm_at 255 603 = some (.iadd) := by decide +kernel
theorem at255_604 : jm_at 255 604 = some (.iaload) := by decide +kernel
theorem at255_605 : jm_at 255 605 = some (.invokevirtual 68) := by decide +kernel
theorem rv255i_68 : jm_rv 255 (.invokevirtual 68) = (2, 225, 0, 0) := by decide +kernel
theorem u255_588 {L : Nat} {xs : Nat → Int32} {H : jm_H} {Q : Option Value → jm_H → Prop} {r1 r2 : Nat} {x3 p0 : Int32} (h0 : ¬ ((x3 + (1 : Int32)) < 0 ∨ L ≤ Int32.toNatClampNeg (x3 + (1 : Int32)))) (h1 : ¬ ((x3 + (2 : Int32)) < 0 ∨ L ≤ Int32.toNatClampNeg (x3 + (2 : Int32)))) (h2 : ¬ ((x3 + (3 : Int32)) < 0 ∨ L ≤ Int32.toNatClampNeg (x3 + (3 : Int32)))) (h3 : jm_tg H r2 = 13) : jm_w (some (L, xs)) 49 255 588 [.ref 1, .ref r1, .ref r2, .int x3] [.int p0] H Q = jm_c (some (L, xs)) 225 [.ref r2, .int (xs (Int32.toNatClampNeg (x3 + (1 : Int32)))), .int (xs (Int32.toNatClampNeg (x3 + (2 : Int32)))), .int (xs (Int32.toNatClampNeg (x3 + (3 : Int32))))] H (fun v G => jm_w (some (L, xs)) 49 255 608 [.ref 1, .ref r1, .ref r2, .int x3] (v.toList ++ []) G Q) := (js0 at255_588 rfl rfl rfl).trans ((js1 at255_589 rfl rfl rfl).trans ((js1 at255_590 rfl rfl rfl).trans ((js1 at255_591 rfl rfl rfl).trans ((jsci at255_592 rfl rfl).trans ((js0 at255_593 rfl rfl rfl).trans ((jssal (H := H) at255_594 h0 rfl).trans ((js1 at255_595 rfl rfl rfl).trans ((js1 at255_596 rfl rfl rfl).trans ((jsci at255_597 rfl rfl).trans ((js0 at255_598 rfl rfl rfl).trans ((jssal (H := H) at255_599 h1 rfl).trans ((js1 at255_600 rfl rfl rfl).trans ((js1 at255_601 rfl rfl rfl).trans ((jsci at255_602 rfl rfl).trans ((js0 at255_603 rfl rfl rfl).trans ((jssal (H := H) at255_604 h2 rfl).trans (jscall (H := H) (as := [.ref r2, .int (xs (Int32.toNatClampNeg (x3 + (1 : Int32)))), .int (xs (Int32.toNatClampNeg (x3 + (2 : Int32)))), .int (xs (Int32.toNatClampNeg (x3 + (3 : Int32))))]) (q := []) at255_605 rfl rv255i_68 (jscutV rfl rfl rfl (Nat.le_of_ble_eq_true rfl) rfl h3) rfl (Nat.le_of_ble_eq_true rfl) rfl rfl)))))))))))))))))
theorem at255_608 : jm_at 255 608 = some (.pop) := by decide +kernel
theorem at255_609 : jm_at 255 609 = some (.goto 721) := by decide +kernel
theorem u255_608 {L : Nat} {xs : Nat → Int32} {H : jm_H} {Q : Option Value → jm_H → Prop} {r1 r2 : Nat} {x3 p0 : Int32} : jm_w (some (L, xs)) 49 255 608 [.ref 1, .ref r1, .ref r2, .int x3] [.int p0] H Q = jm_w (some (L, xs)) 49 255 1330 [.ref 1, .ref r1, .ref r2, .int x3] [] H Q := (js0 at255_608 rfl rfl rfl).trans (js2 at255_609 rfl rfl)
theorem at255_612 : jm_at 255 612 = some (.aload_n 1) := by decide +kernel
theorem at255_613 : jm_at 255 613 = some (.aload_n 0) := by decide +kernel
theorem at255_614 : jm_at 255 614 = some (.iload_n 3) := by decide +kernel
theorem at255_615 : jm_at 255 615 = some (.iconst 1) := by decide +kernel
theorem at255_616 : jm_at 255 616 = some (.iadd) := by decide +kernel
theorem at255_617 : jm_at 255 617 = some (.iaload) := by decide +kernel
theorem at255_618 : jm_at 255 618 = some (.aload_n 0) := by decide +kernel
theorem at255_619 : jm_at 255 619 = some (.iload_n 3) := by decide +kernel
theorem at255_620 : jm_at 255 620 = some (.iconst 2) := by decide +kernel
theorem at255_621 : jm_at 255 621 = some (.iadd) := by decide +kernel
theorem at255_622 : jm_at 255 622 = some (.iaload) := by decide +kernel
theorem at255_623 : jm_at 255 623 = some (.aload_n 0) := by decide +kernel
theorem at255_624 : jm_at 255 624 = some (.iload_n 3) := by decide +kernel
theorem at255_625 : jm_at 255 625 = some (.iconst 3) := by decide +kernel
theorem at255_626 : jm_at 255 626 = some (.iadd) := by decide +kernel
theorem at255_627 : jm_at 255 627 = some (.iaload) := by decide +kernel
theorem at255_628 : jm_at 255 628 = some (.aload_n 0) := by decide +kernel
theorem at255_629 : jm_at 255 629 = some (.iload_n 3) := by decide +kernel
theorem at255_630 : jm_at 255 630 = some (.iconst 4) := by decide +kernel
theorem at255_631 : jm_at 255 631 = some (.iadd) := by decide +kernel
theorem at255_632 : jm_at 255 632 = some (.iaload) := by decide +kernel
theorem at255_633 : jm_at 255 633 = some (.aload_n 0) := by decide +kernel
theorem at255_634 : jm_at 255 634 = some (.iload_n 3) := by decide +kernel
theorem at255_635 : jm_at 255 635 = some (.iconst 5) := by decide +kernel
theorem at255_636 : jm_at 255 636 = some (.iadd) := by decide +kernel
theorem at255_637 : jm_at 255 637 = some (.iaload) := by decide +kernel
theorem at255_638 : jm_at 255 638 = some (.invokevirtual 69) := by decide +kernel
theorem rv255i_69 : jm_rv 255 (.invokevirtual 69) = (2, 132, 0, 0) := by decide +kernel
theorem u255_612 {L : Nat} {xs : Nat → Int32} {H : jm_H} {Q : Option Value → jm_H → Prop} {r1 r2 : Nat} {x3 : Int32} (h0 : ¬ ((x3 + (1 : Int32)) < 0 ∨ L ≤ Int32.toNatClampNeg (x3 + (1 : Int32)))) (h1 : ¬ ((x3 + (2 : Int32)) < 0 ∨ L ≤ Int32.toNatClampNeg (x3 + (2 : Int32)))) (h2 : ¬ ((x3 + (3 : Int32)) < 0 ∨ L ≤ Int32.toNatClampNeg (x3 + (3 : Int32)))) (h3 : ¬ ((x3 + (4 : Int32)) < 0 ∨ L ≤ Int32.toNatClampNeg (x3 + (4 : Int32)))) (h4 : ¬ ((x3 + (5 : Int32)) < 0 ∨ L ≤ Int32.toNatClampNeg (x3 + (5 : Int32)))) (h5 : jm_tg H r1 = 12) : jm_w (some (L, xs)) 49 255 612 [.ref 1, .ref r1, .ref r2, .int x3] [] H Q = jm_c (some (L, xs)) 132 [.ref r1, .int (xs (Int32.toNatClampNeg (x3 + (1 : Int32)))), .int (xs (Int32.toNatClampNeg (x3 + (2 : Int32)))), .int (xs (Int32.toNatClampNeg (x3 + (3 : Int32)))), .int (xs (Int32.toNatClampNeg (x3 + (4 : Int32)))), .int (xs (Int32.toNatClampNeg (x3 + (5 : Int32))))] H (fun v G => jm_w (some (L, xs)) 49 255 641 [.ref 1, .ref r1, .ref r2, .int x3] (v.toList ++ []) G Q) := (js1 at255_612 rfl rfl rfl).trans ((js1 at255_613 rfl rfl rfl).trans ((js1 at255_614 rfl rfl rfl).trans ((jsci at255_615 rfl rfl).trans ((js0 at255_616 rfl rfl rfl).trans ((jssal (H := H) at255_617 h0 rfl).trans ((js1 at255_618 rfl rfl rfl).trans ((js1 at255_619 rfl rfl rfl).trans ((jsci at255_620 rfl rfl).trans ((js0 at255_621 rfl rfl rfl).trans ((jssal (H := H) at255_622 h1 rfl).trans ((js1 at255_623 rfl rfl rfl).trans ((js1 at255_624 rfl rfl rfl).trans ((jsci at255_625 rfl rfl).trans ((js0 at255_626 rfl rfl rfl).trans ((jssal (H := H) at255_627 h2 rfl).trans ((js1 at255_628 rfl rfl rfl).trans ((js1 at255_629 rfl rfl rfl).trans ((jsci at255_630 rfl rfl).trans ((js0 at255_631 rfl rfl rfl).trans ((jssal (H := H) at255_632 h3 rfl).trans ((js1 at255_633 rfl rfl rfl).trans ((js1 at255_634 rfl rfl rfl).trans ((jsci at255_635 rfl rfl).trans ((js0 at255_636 rfl rfl rfl).trans ((jssal (H := H) at255_637 h4 rfl).trans (jscall (H := H) (as := [.ref r1, .int (xs (Int32.toNatClampNeg (x3 + (1 : Int32)))), .int (xs (Int32.toNatClampNeg (x3 + (2 : Int32)))), .int (xs (Int32.toNatClampNeg (x3 + (3 : Int32)))), .int (xs (Int32.toNatClampNeg (x3 + (4 : Int32)))), .int (xs (Int32.toNatClampNeg (x3 + (5 : Int32))))]) (q := []) at255_638 rfl rv255i_69 (jscutV rfl rfl rfl (Nat.le_of_ble_eq_true rfl) rfl h5) rfl (Nat.le_of_ble_eq_true rfl) rfl rfl))))))))))))))))))))))))))
theorem at255_641 : jm_at 255 641 = some (.pop) := by decide +kernel
theorem at255_642 : jm_at 255 642 = some (.aload_n 2) := by decide +kernel
theorem at255_643 : jm_at 255 643 = some (.aload_n 0) := by decide +kernel
theorem at255_644 : jm_at 255 644 = some (.iload_n 3) := by decide +kernel
theorem at255_645 : jm_at 255 645 = some (.iconst 1) := by decide +kernel
theorem at255_646 : jm_at 255 646 = some (.iadd) := by decide +kernel
theorem at255_647 : jm_at 255 647 = some (.iaload) := by decide +kernel
theorem at255_648 : jm_at 255 648 = some (.aload_n 0) := by decide +kernel
theorem at255_649 : jm_at 255 649 = some (.iload_n 3) := by decide +kernel
theorem at255_650 : jm_at 255 650 = some (.iconst 2) := by decide +kernel
theorem at255_651 : jm_at 255 651 = some (.iadd) := by decide +kernel
theorem at255_652 : jm_at 255 652 = some (.iaload) := by decide +kernel
theorem at255_653 : jm_at 255 653 = some (.aload_n 0) := by decide +kernel
theorem at255_654 : jm_at 255 654 = some (.iload_n 3) := by decide +kernel
theorem at255_655 : jm_at 255 655 = some (.iconst 3) := by decide +kernel
theorem at255_656 : jm_at 255 656 = some (.iadd) := by decide +kernel
theorem at255_657 : jm_at 255 657 = some (.iaload) := by decide +kernel
theorem at255_658 : jm_at 255 658 = some (.aload_n 0) := by decide +kernel
theorem at255_659 : jm_at 255 659 = some (.iload_n 3) := by decide +kernel
theorem at255_660 : jm_at 255 660 = some (.iconst 4) := by decide +kernel
theorem at255_661 : jm_at 255 661 = some (.iadd) := by decide +kernel
theorem at255_662 : jm_at 255 662 = some (.iaload) := by decide +kernel
theorem at255_663 : jm_at 255 663 = some (.aload_n 0) := by decide +kernel
theorem at255_664 : jm_at 255 664 = some (.iload_n 3) := by decide +kernel
theorem at255_665 : jm_at 255 665 = some (.iconst 5) := by decide +kernel
theorem at255_666 : jm_at 255 666 = some (.iadd) := by decide +kernel
theorem at255_667 : jm_at 255 667 = some (.iaload) := by decide +kernel
theorem at255_668 : jm_at 255 668 = some (.invokevirtual 72) := by decide +kernel
theorem rv255i_72 : jm_rv 255 (.invokevirtual 72) = (2, 226, 0, 0) := by decide +kernel
theorem u255_641 {L : Nat} {xs : Nat → Int32} {H : jm_H} {Q : Option Value → jm_H → Prop} {r1 r2 : Nat} {x3 p0 : Int32} (h0 : ¬ ((x3 + (1 : Int32)) < 0 ∨ L ≤ Int32.toNatClampNeg (x3 + (1 : Int32)))) (h1 : ¬ ((x3 + (2 : Int32)) < 0 ∨ L ≤ Int32.toNatClampNeg (x3 + (2 : Int32)))) (h2 : ¬ ((x3 + (3 : Int32)) < 0 ∨ L ≤ Int32.toNatClampNeg (x3 + (3 : Int32)))) (h3 : ¬ ((x3 + (4 : Int32)) < 0 ∨ L ≤ Int32.toNatClampNeg (x3 + (4 : Int32)))) (h4 : ¬ ((x3 + (5 : Int32)) < 0 ∨ L ≤ Int32.toNatClampNeg (x3 + (5 : Int32)))) (h5 : jm_tg H r2 = 13) : jm_w (some (L, xs)) 49 255 641 [.ref 1, .ref r1, .ref r2, .int x3] [.int p0] H Q = jm_c (some (L, xs)) 226 [.ref r2, .int (xs (Int32.toNatClampNeg (x3 + (1 : Int32)))), .int (xs (Int32.toNatClampNeg (x3 + (2 : Int32)))), .int (xs (Int32.toNatClampNeg (x3 + (3 : Int32)))), .int (xs (Int32.toNatClampNeg (x3 + (4 : Int32)))), .int (xs (Int32.toNatClampNeg (x3 + (5 : Int32))))] H (fun v G => jm_w (some (L, xs)) 49 255 671 [.ref 1, .ref r1, .ref r2, .int x3] (v.toList ++ []) G Q) := (js0 at255_641 rfl rfl rfl).trans ((js1 at255_642 rfl rfl rfl).trans ((js1 at255_643 rfl rfl rfl).trans ((js1 at255_644 rfl rfl rfl).trans ((jsci at255_645 rfl rfl).trans ((js0 at255_646 rfl rfl rfl).trans ((jssal (H := H) at255_647 h0 rfl).trans ((js1 at255_648 rfl rfl rfl).trans ((js1 at255_649 rfl rfl rfl).trans ((jsci at255_650 rfl rfl).trans ((js0 at255_651 rfl rfl rfl).trans ((jssal (H := H) at255_652 h1 rfl).trans ((js1 at255_653 rfl rfl rfl).trans ((js1 at255_654 rfl rfl rfl).trans ((jsci at255_655 rfl rfl).trans ((js0 at255_656 rfl rfl rfl).trans ((jssal (H := H) at255_657 h2 rfl).trans ((js1 at255_658 rfl rfl rfl).trans ((js1 at255_659 rfl rfl rfl).trans ((jsci at255_660 rfl rfl).trans ((js0 at255_661 rfl rfl rfl).trans ((jssal (H := H) at255_662 h3 rfl).trans ((js1 at255_663 rfl rfl rfl).trans ((js1 at255_664 rfl rfl rfl).trans ((jsci at255_665 rfl rfl).trans ((js0 at255_666 rfl rfl rfl).trans ((jssal (H := H) at255_667 h4 rfl).trans (jscall (H := H) (as := [.ref r2, .int (xs (Int32.toNatClampNeg (x3 + (1 : Int32)))), .int (xs (Int32.toNatClampNeg (x3 + (2 : Int32)))), .int (xs (Int32.toNatClampNeg (x3 + (3 : Int32)))), .int (xs (Int32.toNatClampNeg (x3 + (4 : Int32)))), .int (xs (Int32.toNatClampNeg (x3 + (5 : Int32))))]) (q := []) at255_668 rfl rv255i_72 (jscutV rfl rfl rfl (Nat.le_of_ble_eq_true rfl) rfl h5) rfl (Nat.le_of_ble_eq_true rfl) rfl rfl)))))))))))))))))))))))))))
theorem at255_671 : jm_at 255 671 = some (.pop) := by decide +kernel
theorem at255_672 : jm_at 255 672 = some (.goto 658) := by decide +kernel
theorem u255_671 {L : Nat} {xs : Nat → Int32} {H : jm_H} {Q : Option Value → jm_H → Prop} {r1 r2 : Nat} {x3 p0 : Int32} : jm_w (some (L, xs)) 49 255 671 [.ref 1, .ref r1, .ref r2, .int x3] [.int p0] H Q = jm_w (some (L, xs)) 49 255 1330 [.ref 1, .ref r1, .ref r2, .int x3] [] H Q := (js0 at255_671 rfl rfl rfl).trans (js2 at255_672 rfl rfl)
theorem at255_675 : jm_at 255 675 = some (.aload_n 1) := by decide +kernel
theorem at255_676 : jm_at 255 676 = some (.aload_n 0) := by decide +kernel
theorem at255_677 : jm_at 255 677 = some (.iload_n 3) := by decide +kernel
theorem at255_678 : jm_at 255 678 = some (.iconst 1) := by decide +kernel
theorem at255_679 : jm_at 255 679 = some (.iadd) := by decide +kernel
theorem at255_680 : jm_at 255 680 = some (.iaload) := by decide +kernel
theorem at255_681 : jm_at 255 681 = some (.aload_n 0) := by decide +kernel
theorem at255_682 : jm_at 255 682 = some (.iload_n 3) := by decide +kernel
theorem at255_683 : jm_at 255 683 = some (.iconst 2) := by decide +kernel
theorem at255_684 : jm_at 255 684 = some (.iadd) := by decide +kernel
theorem at255_685 : jm_at 255 685 = some (.iaload) := by decide +kernel
theorem at255_686 : jm_at 255 686 = some (.aload_n 0) := by decide +kernel
theorem at255_687 : jm_at 255 687 = some (.iload_n 3) := by decide +kernel
theorem at255_688 : jm_at 255 688 = some (.iconst 3) := by decide +kernel
theorem at255_689 : jm_at 255 689 = some (.iadd) := by decide +kernel
theorem at255_690 : jm_at 255 690 = some (.iaload) := by decide +kernel
theorem at255_691 : jm_at 255 691 = some (.aload_n 0) := by decide +kernel
theorem at255_692 : jm_at 255 692 = some (.iload_n 3) := by decide +kernel
theorem at255_693 : jm_at 255 693 = some (.iconst 4) := by decide +kernel
theorem at255_694 : jm_at 255 694 = some (.iadd) := by decide +kernel
theorem at255_695 : jm_at 255 695 = some (.iaload) := by decide +kernel
theorem at255_696 : jm_at 255 696 = some (.invokevirtual 73) := by decide +kernel
theorem rv255i_73 : jm_rv 255 (.invokevirtual 73) = (2, 133, 0, 0) := by decide +kernel
theorem u255_675 {L : Nat} {xs : Nat → Int32} {H : jm_H} {Q : Option Value → jm_H → Prop} {r1 r2 : Nat} {x3 : Int32} (h0 : ¬ ((x3 + (1 : Int32)) < 0 ∨ L ≤ Int32.toNatClampNeg (x3 + (1 : Int32)))) (h1 : ¬ ((x3 + (2 : Int32)) < 0 ∨ L ≤ Int32.toNatClampNeg (x3 + (2 : Int32)))) (h2 : ¬ ((x3 + (3 : Int32)) < 0 ∨ L ≤ Int32.toNatClampNeg (x3 + (3 : Int32)))) (h3 : ¬ ((x3 + (4 : Int32)) < 0 ∨ L ≤ Int32.toNatClampNeg (x3 + (4 : Int32)))) (h4 : jm_tg H r1 = 12) : jm_w (some (L, xs)) 49 255 675 [.ref 1, .ref r1, .ref r2, .int x3] [] H Q = jm_c (some (L, xs)) 133 [.ref r1, .int (xs (Int32.toNatClampNeg (x3 + (1 : Int32)))), .int (xs (Int32.toNatClampNeg (x3 + (2 : Int32)))), .int (xs (Int32.toNatClampNeg (x3 + (3 : Int32)))), .int (xs (Int32.toNatClampNeg (x3 + (4 : Int32))))] H (fun v G => jm_w (some (L, xs)) 49 255 699 [.ref 1, .ref r1, .ref r2, .int x3] (v.toList ++ []) G Q) := (js1 at255_675 rfl rfl rfl).trans ((js1 at255_676 rfl rfl rfl).trans ((js1 at255_677 rfl rfl rfl).trans ((jsci at255_678 rfl rfl).trans ((js0 at255_679 rfl rfl rfl).trans ((jssal (H := H) at255_680 h0 rfl).trans ((js1 at255_681 rfl rfl rfl).trans ((js1 at255_682 rfl rfl rfl).trans ((jsci at255_683 rfl rfl).trans ((js0 at255_684 rfl rfl rfl).trans ((jssal (H := H) at255_685 h1 rfl).trans ((js1 at255_686 rfl rfl rfl).trans ((js1 at255_687 rfl rfl rfl).trans ((jsci at255_688 rfl rfl).trans ((js0 at255_689 rfl rfl rfl).trans ((jssal (H := H) at255_690 h2 rfl).trans ((js1 at255_691 rfl rfl rfl).trans ((js1 at255_692 rfl rfl rfl).trans ((jsci at255_693 rfl rfl).trans ((js0 at255_694 rfl rfl rfl).trans ((jssal (H := H) at255_695 h3 rfl).trans (jscall (H := H) (as := [.ref r1, .int (xs (Int32.toNatClampNeg (x3 + (1 : Int32)))), .int (xs (Int32.toNatClampNeg (x3 + (2 : Int32)))), .int (xs (Int32.toNatClampNeg (x3 + (3 : Int32)))), .int (xs (Int32.toNatClampNeg (x3 + (4 : Int32))))]) (q := []) at255_696 rfl rv255i_73 (jscutV rfl rfl rfl (Nat.le_of_ble_eq_true rfl) rfl h4) rfl (Nat.le_of_ble_eq_true rfl) rfl rfl)))))))))))))))))))))
theorem at255_699 : jm_at 255 699 = some (.pop) := by decide +kernel
theorem at255_700 : jm_at 255 700 = some (.aload_n 2) := by decide +kernel
theorem at255_701 : jm_at 255 701 = some (.aload_n 0) := by decide +kernel
theorem at255_702 : jm_at 255 702 = some (.iload_n 3) := by decide +kernel
theorem at255_703 : jm_at 255 703 = some (.iconst 1) := by decide +kernel
theorem at255_704 : jm_at 255 704 = some (.iadd) := by decide +kernel
theorem at255_705 : jm_at 255 705 = some (.iaload) := by decide +kernel
theorem at255_706 : jm_at 255 706 = some (.aload_n 0) := by decide +kernel
theorem at255_707 : jm_at 255 707 = some (.iload_n 3) := by decide +kernel
theorem at255_708 : jm_at 255 708 = some (.iconst 2) := by decide +kernel
theorem at255_709 : jm_at 255 709 = some (.iadd) := by decide +kernel
theorem at255_710 : jm_at 255 710 = some (.iaload) := by decide +kernel
theorem at255_711 : jm_at 255 711 = some (.aload_n 0) := by decide +kernel
theorem at255_712 : jm_at 255 712 = some (.iload_n 3) := by decide +kernel
theorem at255_713 : jm_at 255 713 = some (.iconst 3) := by decide +kernel
theorem at255_714 : jm_at 255 714 = some (.iadd) := by decide +kernel
theorem at255_715 : jm_at 255 715 = some (.iaload) := by decide +kernel
theorem at255_716 : jm_at 255 716 = some (.aload_n 0) := by decide +kernel
theorem at255_717 : jm_at 255 717 = some (.iload_n 3) := by decide +kernel
theorem at255_718 : jm_at 255 718 = some (.iconst 4) := by decide +kernel
theorem at255_719 : jm_at 255 719 = some (.iadd) := by decide +kernel
theorem at255_720 : jm_at 255 720 = some (.iaload) := by decide +kernel
theorem at255_721 : jm_at 255 721 = some (.invokevirtual 76) := by decide +kernel
theorem rv255i_76 : jm_rv 255 (.invokevirtual 76) = (2, 228, 0, 0) := by decide +kernel
theorem u255_699 {L : Nat} {xs : Nat → Int32} {H : jm_H} {Q : Option Value → jm_H → Prop} {r1 r2 : Nat} {x3 p0 : Int32} (h0 : ¬ ((x3 + (1 : Int32)) < 0 ∨ L ≤ Int32.toNatClampNeg (x3 + (1 : Int32)))) (h1 : ¬ ((x3 + (2 : Int32)) < 0 ∨ L ≤ Int32.toNatClampNeg (x3 + (2 : Int32)))) (h2 : ¬ ((x3 + (3 : Int32)) < 0 ∨ L ≤ Int32.toNatClampNeg (x3 + (3 : Int32)))) (h3 : ¬ ((x3 + (4 : Int32)) < 0 ∨ L ≤ Int32.toNatClampNeg (x3 + (4 : Int32)))) (h4 : jm_tg H r2 = 13) : jm_w (some (L, xs)) 49 255 699 [.ref 1, .ref r1, .ref r2, .int x3] [.int p0] H Q = jm_c (some (L, xs)) 228 [.ref r2, .int (xs (Int32.toNatClampNeg (x3 + (1 : Int32)))), .int (xs (Int32.toNatClampNeg (x3 + (2 : Int32)))), .int (xs (Int32.toNatClampNeg (x3 + (3 : Int32)))), .int (xs (Int32.toNatClampNeg (x3 + (4 : Int32))))] H (fun v G => jm_w (some (L, xs)) 49 255 724 [.ref 1, .ref r1, .ref r2, .int x3] (v.toList ++ []) G Q) := (js0 at255_699 rfl rfl rfl).trans ((js1 at255_700 rfl rfl rfl).trans ((js1 at255_701 rfl rfl rfl).trans ((js1 at255_702 rfl rfl rfl).trans ((jsci at255_703 rfl rfl).trans ((js0 at255_704 rfl rfl rfl).trans ((jssal (H := H) at255_705 h0 rfl).trans ((js1 at255_706 rfl rfl rfl).trans ((js1 at255_707 rfl rfl rfl).trans ((jsci at255_708 rfl rfl).trans ((js0 at255_709 rfl rfl rfl).trans ((jssal (H := H) at255_710 h1 rfl).trans ((js1 at255_711 rfl rfl rfl).trans ((js1 at255_712 rfl rfl rfl).trans ((jsci at255_713 rfl rfl).trans ((js0 at255_714 rfl rfl rfl).trans ((jssal (H := H) at255_715 h2 rfl).trans ((js1 at255_716 rfl rfl rfl).trans ((js1 at255_717 rfl rfl rfl).trans ((jsci at255_718 rfl rfl).trans ((js0 at255_719 rfl rfl rfl).trans ((jssal (H := H) at255_720 h3 rfl).trans (jscall (H := H) (as := [.ref r2, .int (xs (Int32.toNatClampNeg (x3 + (1 : Int32)))), .int (xs (Int32.toNatClampNeg (x3 + (2 : Int32)))), .int (xs (Int32.toNatClampNeg (x3 + (3 : Int32)))), .int (xs (Int32.toNatClampNeg (x3 + (4 : Int32))))]) (q := []) at255_721 rfl rv255i_76 (jscutV rfl rfl rfl (Nat.le_of_ble_eq_true rfl) rfl h4) rfl (Nat.le_of_ble_eq_true rfl) rfl rfl))))))))))))))))))))))
theorem at255_724 : jm_at 255 724 = some (.pop) := by decide +kernel
theorem at255_725 : jm_at 255 725 = some (.goto 605) := by decide +kernel
theorem u255_724 {L : Nat} {xs : Nat → Int32} {H : jm_H} {Q : Option Value → jm_H → Prop} {r1 r2 : Nat} {x3 p0 : Int32} : jm_w (some (L, xs)) 49 255 724 [.ref 1, .ref r1, .ref r2, .int x3] [.int p0] H Q = jm_w (some (L, xs)) 49 255 1330 [.ref 1, .ref r1, .ref r2, .int x3] [] H Q := (js0 at255_724 rfl rfl rfl).trans (js2 at255_725 rfl rfl)
theorem at255_728 : jm_at 255 728 = some (.aload_n 1) := by decide +kernel
theorem at255_729 : jm_at 255 729 = some (.aload_n 0) := by decide +kernel
theorem at255_730 : jm_at 255 730 = some (.iload_n 3) := by decide +kernel
theorem at255_731 : jm_at 255 731 = some (.iconst 1) := by decide +kernel
theorem at255_732 : jm_at 255 732 = some (.iadd) := by decide +kernel
theorem at255_733 : jm_at 255 733 = some (.iaload) := by decide +kernel
theorem at255_734 : jm_at 255 734 = some (.aload_n 0) := by decide +kernel
theorem at255_735 : jm_at 255 735 = some (.iload_n 3) := by decide +kernel
theorem at255_736 : jm_at 255 736 = some (.iconst 2) := by decide +kernel
theorem at255_737 : jm_at 255 737 = some (.iadd) := by decide +kernel
theorem at255_738 : jm_at 255 738 = some (.iaload) := by decide +kernel
theorem at255_739 : jm_at 255 739 = some (.aload_n 0) := by decide +kernel
theorem at255_740 : jm_at 255 740 = some (.iload_n 3) := by decide +kernel
theorem at255_741 : jm_at 255 741 = some (.iconst 3) := by decide +kernel
theorem at255_742 : jm_at 255 742 = some (.iadd) := by decide +kernel
theorem at255_743 : jm_at 255 743 = some (.iaload) := by decide +kernel
theorem at255_744 : jm_at 255 744 = some (.aload_n 0) := by decide +kernel
theorem at255_745 : jm_at 255 745 = some (.iload_n 3) := by decide +kernel
theorem at255_746 : jm_at 255 746 = some (.iconst 4) := by decide +kernel
theorem at255_747 : jm_at 255 747 = some (.iadd) := by decide +kernel
theorem at255_748 : jm_at 255 748 = some (.iaload) := by decide +kernel
theorem at255_749 : jm_at 255 749 = some (.invokevirtual 77) := by decide +kernel
theorem rv255i_77 : jm_rv 255 (.invokevirtual 77) = (2, 114, 0, 0) := by decide +kernel
theorem u255_728 {L : Nat} {xs : Nat → Int32} {H : jm_H} {Q : Option Value → jm_H → Prop} {r1 r2 : Nat} {x3 : Int32} (h0 : ¬ ((x3 + (1 : Int32)) < 0 ∨ L ≤ Int32.toNatClampNeg (x3 + (1 : Int32)))) (h1 : ¬ ((x3 + (2 : Int32)) < 0 ∨ L ≤ Int32.toNatClampNeg (x3 + (2 : Int32)))) (h2 : ¬ ((x3 + (3 : Int32)) < 0 ∨ L ≤ Int32.toNatClampNeg (x3 + (3 : Int32)))) (h3 : ¬ ((x3 + (4 : Int32)) < 0 ∨ L ≤ Int32.toNatClampNeg (x3 + (4 : Int32)))) (h4 : jm_tg H r1 = 12) : jm_w (some (L, xs)) 49 255 728 [.ref 1, .ref r1, .ref r2, .int x3] [] H Q = jm_c (some (L, xs)) 114 [.ref r1, .int (xs (Int32.toNatClampNeg (x3 + (1 : Int32)))), .int (xs (Int32.toNatClampNeg (x3 + (2 : Int32)))), .int (xs (Int32.toNatClampNeg (x3 + (3 : Int32)))), .int (xs (Int32.toNatClampNeg (x3 + (4 : Int32))))] H (fun v G => jm_w (some (L, xs)) 49 255 752 [.ref 1, .ref r1, .ref r2, .int x3] (v.toList ++ []) G Q) := (js1 at255_728 rfl rfl rfl).trans ((js1 at255_729 rfl rfl rfl).trans ((js1 at255_730 rfl rfl rfl).trans ((jsci at255_731 rfl rfl).trans ((js0 at255_732 rfl rfl rfl).trans ((jssal (H := H) at255_733 h0 rfl).trans ((js1 at255_734 rfl rfl rfl).trans ((js1 at255_735 rfl rfl rfl).trans ((jsci at255_736 rfl rfl).trans ((js0 at255_737 rfl rfl rfl).trans ((jssal (H := H) at255_738 h1 rfl).trans ((js1 at255_739 rfl rfl rfl).trans ((js1 at255_740 rfl rfl rfl).trans ((jsci at255_741 rfl rfl).trans ((js0 at255_742 rfl rfl rfl).trans ((jssal (H := H) at255_743 h2 rfl).trans ((js1 at255_744 rfl rfl rfl).trans ((js1 at255_745 rfl rfl rfl).trans ((jsci at255_746 rfl rfl).trans ((js0 at255_747 rfl rfl rfl).trans ((jssal (H := H) at255_748 h3 rfl).trans (jscall (H := H) (as := [.ref r1, .int (xs (Int32.toNatClampNeg (x3 + (1 : Int32)))), .int (xs (Int32.toNatClampNeg (x3 + (2 : Int32)))), .int (xs (Int32.toNatClampNeg (x3 + (3 : Int32)))), .int (xs (Int32.toNatClampNeg (x3 + (4 : Int32))))]) (q := []) at255_749 rfl rv255i_77 (jscutV rfl rfl rfl (Nat.le_of_ble_eq_true rfl) rfl h4) rfl (Nat.le_of_ble_eq_true rfl) rfl rfl)))))))))))))))))))))
theorem at255_752 : jm_at 255 752 = some (.pop) := by decide +kernel
theorem at255_753 : jm_at 255 753 = some (.aload_n 2) := by decide +kernel
theorem at255_754 : jm_at 255 754 = some (.aload_n 0) := by decide +kernel
theorem at255_755 : jm_at 255 755 = some (.iload_n 3) := by decide +kernel
theorem at255_756 : jm_at 255 756 = some (.iconst 1) := by decide +kernel
theorem at255_757 : jm_at 255 757 = some (.iadd) := by decide +kernel
theorem at255_758 : jm_at 255 758 = some (.iaload) := by decide +kernel
theorem at255_759 : jm_at 255 759 = some (.aload_n 0) := by decide +kernel
theorem at255_760 : jm_at 255 760 = some (.iload_n 3) := by decide +kernel
theorem at255_761 : jm_at 255 761 = some (.iconst 2) := by decide +kernel
theorem at255_762 : jm_at 255 762 = some (.iadd) := by decide +kernel
theorem at255_763 : jm_at 255 763 = some (.iaload) := by decide +kernel
theorem at255_764 : jm_at 255 764 = some (.aload_n 0) := by decide +kernel
theorem at255_765 : jm_at 255 765 = some (.iload_n 3) := by decide +kernel
theorem at255_766 : jm_at 255 766 = some (.iconst 3) := by decide +kernel
theorem at255_767 : jm_at 255 767 = some (.iadd) := by decide +kernel
theorem at255_768 : jm_at 255 768 = some (.iaload) := by decide +kernel
theorem at255_769 : jm_at 255 769 = some (.aload_n 0) := by decide +kernel
theorem at255_770 : jm_at 255 770 = some (.iload_n 3) := by decide +kernel
theorem at255_771 : jm_at 255 771 = some (.iconst 4) := by decide +kernel
theorem at255_772 : jm_at 255 772 = some (.iadd) := by decide +kernel
theorem at255_773 : jm_at 255 773 = some (.iaload) := by decide +kernel
theorem at255_774 : jm_at 255 774 = some (.invokevirtual 80) := by decide +kernel
theorem rv255i_80 : jm_rv 255 (.invokevirtual 80) = (2, 230, 0, 0) := by decide +kernel
theorem u255_752 {L : Nat} {xs : Nat → Int32} {H : jm_H} {Q : Option Value → jm_H → Prop} {r1 r2 : Nat} {x3 p0 : Int32} (h0 : ¬ ((x3 + (1 : Int32)) < 0 ∨ L ≤ Int32.toNatClampNeg (x3 + (1 : Int32)))) (h1 : ¬ ((x3 + (2 : Int32)) < 0 ∨ L ≤ Int32.toNatClampNeg (x3 + (2 : Int32)))) (h2 : ¬ ((x3 + (3 : Int32)) < 0 ∨ L ≤ Int32.toNatClampNeg (x3 + (3 : Int32)))) (h3 : ¬ ((x3 + (4 : Int32)) < 0 ∨ L ≤ Int32.toNatClampNeg (x3 + (4 : Int32)))) (h4 : jm_tg H r2 = 13) : jm_w (some (L, xs)) 49 255 752 [.ref 1, .ref r1, .ref r2, .int x3] [.int p0] H Q = jm_c (some (L, xs)) 230 [.ref r2, .int (xs (Int32.toNatClampNeg (x3 + (1 : Int32)))), .int (xs (Int32.toNatClampNeg (x3 + (2 : Int32)))), .int (xs (Int32.toNatClampNeg (x3 + (3 : Int32)))), .int (xs (Int32.toNatClampNeg (x3 + (4 : Int32))))] H (fun v G => jm_w (some (L, xs)) 49 255 777 [.ref 1, .ref r1, .ref r2, .int x3] (v.toList ++ []) G Q) := (js0 at255_752 rfl rfl rfl).trans ((js1 at255_753 rfl rfl rfl).trans ((js1 at255_754 rfl rfl rfl).trans ((js1 at255_755 rfl rfl rfl).trans ((jsci at255_756 rfl rfl).trans ((js0 at255_757 rfl rfl rfl).trans ((jssal (H := H) at255_758 h0 rfl).trans ((js1 at255_759 rfl rfl rfl).trans ((js1 at255_760 rfl rfl rfl).trans ((jsci at255_761 rfl rfl).trans ((js0 at255_762 rfl rfl rfl).trans ((jssal (H := H) at255_763 h1 rfl).trans ((js1 at255_764 rfl rfl rfl).trans ((js1 at255_765 rfl rfl rfl).trans ((jsci at255_766 rfl rfl).trans ((js0 at255_767 rfl rfl rfl).trans ((jssal (H := H) at255_768 h2 rfl).trans ((js1 at255_769 rfl rfl rfl).trans ((js1 at255_770 rfl rfl rfl).trans ((jsci at255_771 rfl rfl).trans ((js0 at255_772 rfl rfl rfl).trans ((jssal (H := H) at255_773 h3 rfl).trans (jscall (H := H) (as := [.ref r2, .int (xs (Int32.toNatClampNeg (x3 + (1 : Int32)))), .int (xs (Int32.toNatClampNeg (x3 + (2 : Int32)))), .int (xs (Int32.toNatClampNeg (x3 + (3 : Int32)))), .int (xs (Int32.toNatClampNeg (x3 + (4 : Int32))))]) (q := []) at255_774 rfl rv255i_80 (jscutV rfl rfl rfl (Nat.le_of_ble_eq_true rfl) rfl h4) rfl (Nat.le_of_ble_eq_true rfl) rfl rfl))))))))))))))))))))))
theorem at255_777 : jm_at 255 777 = some (.pop) := by decide +kernel
theorem at255_778 : jm_at 255 778 = some (.goto 552) := by decide +kernel
theorem u255_777 {L : Nat} {xs : Nat → Int32} {H : jm_H} {Q : Option Value → jm_H → Prop} {r1 r2 : Nat} {x3 p0 : Int32} : jm_w (some (L, xs)) 49 255 777 [.ref 1, .ref r1, .ref r2, .int x3] [.int p0] H Q = jm_w (some (L, xs)) 49 255 1330 [.ref 1, .ref r1, .ref r2, .int x3] [] H Q := (js0 at255_777 rfl rfl rfl).trans (js2 at255_778 rfl rfl)
theorem at255_781 : jm_at 255 781 = some (.aload_n 1) := by decide +kernel
theorem at255_782 : jm_at 255 782 = some (.aload_n 0) := by decide +kernel
theorem at255_783 : jm_at 255 783 = some (.iload_n 3) := by decide +kernel
theorem at255_784 : jm_at 255 784 = some (.iconst 1) := by decide +kernel
theorem at255_785 : jm_at 255 785 = some (.iadd) := by decide +kernel
theorem at255_786 : jm_at 255 786 = some (.iaload) := by decide +kernel
theorem at255_787 : jm_at 255 787 = some (.aload_n 0) := by decide +kernel
theorem at255_788 : jm_at 255 788 = some (.iload_n 3) := by decide +kernel
theorem at255_789 : jm_at 255 789 = some (.iconst 2) := by decide +kernel
theorem at255_790 : jm_at 255 790 = some (.iadd) := by decide +kernel
theorem at255_791 : jm_at 255 791 = some (.iaload) := by decide +kernel
theorem at255_792 : jm_at 255 792 = some (.aload_n 0) := by decide +kernel
theorem at255_793 : jm_at 255 793 = some (.iload_n 3) := by decide +kernel
theorem at255_794 : jm_at 255 794 = some (.iconst 3) := by decide +kernel
theorem at255_795 : jm_at 255 795 = some (.iadd) := by decide +kernel
theorem at255_796 : jm_at 255 796 = some (.iaload) := by decide +kernel
theorem at255_797 : jm_at 255 797 = some (.aload_n 0) := by decide +kernel
theorem at255_798 : jm_at 255 798 = some (.iload_n 3) := by decide +kernel
theorem at255_799 : jm_at 255 799 = some (.iconst 4) := by decide +kernel
theorem at255_800 : jm_at 255 800 = some (.iadd) := by decide +kernel
theorem at255_801 : jm_at 255 801 = some (.iaload) := by decide +kernel
theorem at255_802 : jm_at 255 802 = some (.invokevirtual 81) := by decide +kernel
theorem rv255i_81 : jm_rv 255 (.invokevirtual 81) = (2, 117, 0, 0) := by decide +kernel
theorem u255_781 {L : Nat} {xs : Nat → Int32} {H : jm_H} {Q : Option Value → jm_H → Prop} {r1 r2 : Nat} {x3 : Int32} (h0 : ¬ ((x3 + (1 : Int32)) < 0 ∨ L ≤ Int32.toNatClampNeg (x3 + (1 : Int32)))) (h1 : ¬ ((x3 + (2 : Int32)) < 0 ∨ L ≤ Int32.toNatClampNeg (x3 + (2 : Int32)))) (h2 : ¬ ((x3 + (3 : Int32)) < 0 ∨ L ≤ Int32.toNatClampNeg (x3 + (3 : Int32)))) (h3 : ¬ ((x3 + (4 : Int32)) < 0 ∨ L ≤ Int32.toNatClampNeg (x3 + (4 : Int32)))) (h4 : jm_tg H r1 = 12) : jm_w (some (L, xs)) 49 255 781 [.ref 1, .ref r1, .ref r2, .int x3] [] H Q = jm_c (some (L, xs)) 117 [.ref r1, .int (xs (Int32.toNatClampNeg (x3 + (1 : Int32)))), .int (xs (Int32.toNatClampNeg (x3 + (2 : Int32)))), .int (xs (Int32.toNatClampNeg (x3 + (3 : Int32)))), .int (xs (Int32.toNatClampNeg (x3 + (4 : Int32))))] H (fun v G => jm_w (some (L, xs)) 49 255 805 [.ref 1, .ref r1, .ref r2, .int x3] (v.toList ++ []) G Q) := (js1 at255_781 rfl rfl rfl).trans ((js1 at255_782 rfl rfl rfl).trans ((js1 at255_783 rfl rfl rfl).trans ((jsci at255_784 rfl rfl).trans ((js0 at255_785 rfl rfl rfl).trans ((jssal (H := H) at255_786 h0 rfl).trans ((js1 at255_787 rfl rfl rfl).trans ((js1 at255_788 rfl rfl rfl).trans ((jsci at255_789 rfl rfl).trans ((js0 at255_790 rfl rfl rfl).trans ((jssal (H := H) at255_791 h1 rfl).trans ((js1 at255_792 rfl rfl rfl).trans ((js1 at255_793 rfl rfl rfl).trans ((jsci at255_794 rfl rfl).trans ((js0 at255_795 rfl rfl rfl).trans ((jssal (H := H) at255_796 h2 rfl).trans ((js1 at255_797 rfl rfl rfl).trans ((js1 at255_798 rfl rfl rfl).trans ((jsci at255_799 rfl rfl).trans ((js0 at255_800 rfl rfl rfl).trans ((jssal (H := H) at255_801 h3 rfl).trans (jscall (H := H) (as := [.ref r1, .int (xs (Int32.toNatClampNeg (x3 + (1 : Int32)))), .int (xs (Int32.toNatClampNeg (x3 + (2 : Int32)))), .int (xs (Int32.toNatClampNeg (x3 + (3 : Int32)))), .int (xs (Int32.toNatClampNeg (x3 + (4 : Int32))))]) (q := []) at255_802 rfl rv255i_81 (jscutV rfl rfl rfl (Nat.le_of_ble_eq_true rfl) rfl h4) rfl (Nat.le_of_ble_eq_true rfl) rfl rfl)))))))))))))))))))))
theorem at255_805 : jm_at 255 805 = some (.pop) := by decide +kernel
theorem at255_806 : jm_at 255 806 = some (.aload_n 2) := by decide +kernel
theorem at255_807 : jm_at 255 807 = some (.aload_n 0) := by decide +kernel
theorem at255_808 : jm_at 255 808 = some (.iload_n 3) := by decide +kernel
theorem at255_809 : jm_at 255 809 = some (.iconst 1) := by decide +kernel
theorem at255_810 : jm_at 255 810 = some (.iadd) := by decide +kernel
theorem at255_811 : jm_at 255 811 = some (.iaload) := by decide +kernel
theorem at255_812 : jm_at 255 812 = some (.aload_n 0) := by decide +kernel
theorem at255_813 : jm_at 255 813 = some (.iload_n 3) := by decide +kernel
theorem at255_814 : jm_at 255 814 = some (.iconst 2) := by decide +kernel
theorem at255_815 : jm_at 255 815 = some (.iadd) := by decide +kernel
theorem at255_816 : jm_at 255 816 = some (.iaload) := by decide +kernel
theorem at255_817 : jm_at 255 817 = some (.aload_n 0) := by decide +kernel
theorem at255_818 : jm_at 255 818 = some (.iload_n 3) := by decide +kernel
theorem at255_819 : jm_at 255 819 = some (.iconst 3) := by decide +kernel
theorem at255_820 : jm_at 255 820 = some (.iadd) := by decide +kernel
theorem at255_821 : jm_at 255 821 = some (.iaload) := by decide +kernel
theorem at255_822 : jm_at 255 822 = some (.aload_n 0) := by decide +kernel
theorem at255_823 : jm_at 255 823 = some (.iload_n 3) := by decide +kernel
theorem at255_824 : jm_at 255 824 = some (.iconst 4) := by decide +kernel
theorem at255_825 : jm_at 255 825 = some (.iadd) := by decide +kernel
theorem at255_826 : jm_at 255 826 = some (.iaload) := by decide +kernel
theorem at255_827 : jm_at 255 827 = some (.invokevirtual 84) := by decide +kernel
theorem rv255i_84 : jm_rv 255 (.invokevirtual 84) = (2, 232, 0, 0) := by decide +kernel
theorem u255_805 {L : Nat} {xs : Nat → Int32} {H : jm_H} {Q : Option Value → jm_H → Prop} {r1 r2 : Nat} {x3 p0 : Int32} (h0 : ¬ ((x3 + (1 : Int32)) < 0 ∨ L ≤ Int32.toNatClampNeg (x3 + (1 : Int32)))) (h1 : ¬ ((x3 + (2 : Int32)) < 0 ∨ L ≤ Int32.toNatClampNeg (x3 + (2 : Int32)))) (h2 : ¬ ((x3 + (3 : Int32)) < 0 ∨ L ≤ Int32.toNatClampNeg (x3 + (3 : Int32)))) (h3 : ¬ ((x3 + (4 : Int32)) < 0 ∨ L ≤ Int32.toNatClampNeg (x3 + (4 : Int32)))) (h4 : jm_tg H r2 = 13) : jm_w (some (L, xs)) 49 255 805 [.ref 1, .ref r1, .ref r2, .int x3] [.int p0] H Q = jm_c (some (L, xs)) 232 [.ref r2, .int (xs (Int32.toNatClampNeg (x3 + (1 : Int32)))), .int (xs (Int32.toNatClampNeg (x3 + (2 : Int32)))), .int (xs (Int32.toNatClampNeg (x3 + (3 : Int32)))), .int (xs (Int32.toNatClampNeg (x3 + (4 : Int32))))] H (fun v G => jm_w (some (L, xs)) 49 255 830 [.ref 1, .ref r1, .ref r2, .int x3] (v.toList ++ []) G Q) := (js0 at255_805 rfl rfl rfl).trans ((js1 at255_806 rfl rfl rfl).trans ((js1 at255_807 rfl rfl rfl).trans ((js1 at255_808 rfl rfl rfl).trans ((jsci at255_809 rfl rfl).trans ((js0 at255_810 rfl rfl rfl).trans ((jssal (H := H) at255_811 h0 rfl).trans ((js1 at255_812 rfl rfl rfl).trans ((js1 at255_813 rfl rfl rfl).trans ((jsci at255_814 rfl rfl).trans ((js0 at255_815 rfl rfl rfl).trans ((jssal (H := H) at255_816 h1 rfl).trans ((js1 at255_817 rfl rfl rfl).trans ((js1 at255_818 rfl rfl rfl).trans ((jsci at255_819 rfl rfl).trans ((js0 at255_820 rfl rfl rfl).trans ((jssal (H := H) at255_821 h2 rfl).trans ((js1 at255_822 rfl rfl rfl).trans ((js1 at255_823 rfl rfl rfl).trans ((jsci at255_824 rfl rfl).trans ((js0 at255_825 rfl rfl rfl).trans ((jssal (H := H) at255_826 h3 rfl).trans (jscall (H := H) (as := [.ref r2, .int (xs (Int32.toNatClampNeg (x3 + (1 : Int32)))), .int (xs (Int32.toNatClampNeg (x3 + (2 : Int32)))), .int (xs (Int32.toNatClampNeg (x3 + (3 : Int32)))), .int (xs (Int32.toNatClampNeg (x3 + (4 : Int32))))]) (q := []) at255_827 rfl rv255i_84 (jscutV rfl rfl rfl (Nat.le_of_ble_eq_true rfl) rfl h4) rfl (Nat.le_of_ble_eq_true rfl) rfl rfl))))))))))))))))))))))
theorem at255_830 : jm_at 255 830 = some (.pop) := by decide +kernel
theorem at255_831 : jm_at 255 831 = some (.goto 499) := by decide +kernel
theorem u255_830 {L : Nat} {xs : Nat → Int32} {H : jm_H} {Q : Option Value → jm_H → Prop} {r1 r2 : Nat} {x3 p0 : Int32} : jm_w (some (L, xs)) 49 255 830 [.ref 1, .ref r1, .ref r2, .int x3] [.int p0] H Q = jm_w (some (L, xs)) 49 255 1330 [.ref 1, .ref r1, .ref r2, .int x3] [] H Q := (js0 at255_830 rfl rfl rfl).trans (js2 at255_831 rfl rfl)
theorem at255_834 : jm_at 255 834 = some (.aload_n 1) := by decide +kernel
theorem at255_835 : jm_at 255 835 = some (.aload_n 0) := by decide +kernel
theorem at255_836 : jm_at 255 836 = some (.iload_n 3) := by decide +kernel
theorem at255_837 : jm_at 255 837 = some (.iconst 1) := by decide +kernel
theorem at255_838 : jm_at 255 838 = some (.iadd) := by decide +kernel
theorem at255_839 : jm_at 255 839 = some (.iaload) := by decide +kernel
theorem at255_840 : jm_at 255 840 = some (.aload_n 0) := by decide +kernel
theorem at255_841 : jm_at 255 841 = some (.iload_n 3) := by decide +kernel
theorem at255_842 : jm_at 255 842 = some (.iconst 2) := by decide +kernel
theorem at255_843 : jm_at 255 843 = some (.iadd) := by decide +kernel
theorem at255_844 : jm_at 255 844 = some (.iaload) := by decide +kernel
theorem at255_845 : jm_at 255 845 = some (.aload_n 0) := by decide +kernel
theorem at255_846 : jm_at 255 846 = some (.iload_n 3) := by decide +kernel
theorem at255_847 : jm_at 255 847 = some (.iconst 3) := by decide +kernel
theorem at255_848 : jm_at 255 848 = some (.iadd) := by decide +kernel
theorem at255_849 : jm_at 255 849 = some (.iaload) := by decide +kernel
theorem at255_850 : jm_at 255 850 = some (.aload_n 0) := by decide +kernel
theorem at255_851 : jm_at 255 851 = some (.iload_n 3) := by decide +kernel
theorem at255_852 : jm_at 255 852 = some (.iconst 4) := by decide +kernel
theorem at255_853 : jm_at 255 853 = some (.iadd) := by decide +kernel
theorem at255_854 : jm_at 255 854 = some (.iaload) := by decide +kernel
theorem at255_855 : jm_at 255 855 = some (.aload_n 0) := by decide +kernel
theorem at255_856 : jm_at 255 856 = some (.iload_n 3) := by decide +kernel
theorem at255_857 : jm_at 255 857 = some (.iconst 5) := by decide +kernel
theorem at255_858 : jm_at 255 858 = some (.iadd) := by decide +kernel
theorem at255_859 : jm_at 255 859 = some (.iaload) := by decide +kernel
theorem at255_860 : jm_at 255 860 = some (.invokevirtual 85) := by decide +kernel
theorem rv255i_85 : jm_rv 255 (.invokevirtual 85) = (2, 136, 0, 0) := by decide +kernel
theorem u255_834 {L : Nat} {xs : Nat → Int32} {H : jm_H} {Q : Option Value → jm_H → Prop} {r1 r2 : Nat} {x3 : Int32} (h0 : ¬ ((x3 + (1 : Int32)) < 0 ∨ L ≤ Int32.toNatClampNeg (x3 + (1 : Int32)))) (h1 : ¬ ((x3 + (2 : Int32)) < 0 ∨ L ≤ Int32.toNatClampNeg (x3 + (2 : Int32)))) (h2 : ¬ ((x3 + (3 : Int32)) < 0 ∨ L ≤ Int32.toNatClampNeg (x3 + (3 : Int32)))) (h3 : ¬ ((x3 + (4 : Int32)) < 0 ∨ L ≤ Int32.toNatClampNeg (x3 + (4 : Int32)))) (h4 : ¬ ((x3 + (5 : Int32)) < 0 ∨ L ≤ Int32.toNatClampNeg (x3 + (5 : Int32)))) (h5 : jm_tg H r1 = 12) : jm_w (some (L, xs)) 49 255 834 [.ref 1, .ref r1, .ref r2, .int x3] [] H Q = jm_c (some (L, xs)) 136 [.ref r1, .int (xs (Int32.toNatClampNeg (x3 + (1 : Int32)))), .int (xs (Int32.toNatClampNeg (x3 + (2 : Int32)))), .int (xs (Int32.toNatClampNeg (x3 + (3 : Int32)))), .int (xs (Int32.toNatClampNeg (x3 + (4 : Int32)))), .int (xs (Int32.toNatClampNeg (x3 + (5 : Int32))))] H (fun v G => jm_w (some (L, xs)) 49 255 863 [.ref 1, .ref r1, .ref r2, .int x3] (v.toList ++ []) G Q) := (js1 at255_834 rfl rfl rfl).trans ((js1 at255_835 rfl rfl rfl).trans ((js1 at255_836 rfl rfl rfl).trans ((jsci at255_837 rfl rfl).trans ((js0 at255_838 rfl rfl rfl).trans ((jssal (H := H) at255_839 h0 rfl).trans ((js1 at255_840 rfl rfl rfl).trans ((js1 at255_841 rfl rfl rfl).trans ((jsci at255_842 rfl rfl).trans ((js0 at255_843 rfl rfl rfl).trans ((jssal (H := H) at255_844 h1 rfl).trans ((js1 at255_845 rfl rfl rfl).trans ((js1 at255_846 rfl rfl rfl).trans ((jsci at255_847 rfl rfl).trans ((js0 at255_848 rfl rfl rfl).trans ((jssal (H := H) at255_849 h2 rfl).trans ((js1 at255_850 rfl rfl rfl).trans ((js1 at255_851 rfl rfl rfl).trans ((jsci at255_852 rfl rfl).trans ((js0 at255_853 rfl rfl rfl).trans ((jssal (H := H) at255_854 h3 rfl).trans ((js1 at255_855 rfl rfl rfl).trans ((js1 at255_856 rfl rfl rfl).trans ((jsci at255_857 rfl rfl).trans ((js0 at255_858 rfl rfl rfl).trans ((jssal (H := H) at255_859 h4 rfl).trans (jscall (H := H) (as := [.ref r1, .int (xs (Int32.toNatClampNeg (x3 + (1 : Int32)))), .int (xs (Int32.toNatClampNeg (x3 + (2 : Int32)))), .int (xs (Int32.toNatClampNeg (x3 + (3 : Int32)))), .int (xs (Int32.toNatClampNeg (x3 + (4 : Int32)))), .int (xs (Int32.toNatClampNeg (x3 + (5 : Int32))))]) (q := []) at255_860 rfl rv255i_85 (jscutV rfl rfl rfl (Nat.le_of_ble_eq_true rfl) rfl h5) rfl (Nat.le_of_ble_eq_true rfl) rfl rfl))))))))))))))))))))))))))
theorem at255_863 : jm_at 255 863 = some (.pop) := by decide +kernel
theorem at255_864 : jm_at 255 864 = some (.aload_n 2) := by decide +kernel
theorem at255_865 : jm_at 255 865 = some (.aload_n 0) := by decide +kernel
theorem at255_866 : jm_at 255 866 = some (.iload_n 3) := by decide +kernel
theorem at255_867 : jm_at 255 867 = some (.iconst 1) := by decide +kernel
theorem at255_868 : jm_at 255 868 = some (.iadd) := by decide +kernel
theorem at255_869 : jm_at 255 869 = some (.iaload) := by decide +kernel
theorem at255_870 : jm_at 255 870 = some (.aload_n 0) := by decide +kernel
theorem at255_871 : jm_at 255 871 = some (.iload_n 3) := by decide +kernel
theorem at255_872 : jm_at 255 872 = some (.iconst 2) := by decide +kernel
theorem at255_873 : jm_at 255 873 = some (.iadd) := by decide +kernel
theorem at255_874 : jm_at 255 874 = some (.iaload) := by decide +kernel
theorem at255_875 : jm_at 255 875 = some (.aload_n 0) := by decide +kernel
theorem at255_876 : jm_at 255 876 = some (.iload_n 3) := by decide +kernel
theorem at255_877 : jm_at 255 877 = some (.iconst 3) := by decide +kernel
theorem at255_878 : jm_at 255 878 = some (.iadd) := by decide +kernel
theorem at255_879 : jm_at 255 879 = some (.iaload) := by decide +kernel
theorem at255_880 : jm_at 255 880 = some (.aload_n 0) := by decide +kernel
theorem at255_881 : jm_at 255 881 = some (.iload_n 3) := by decide +kernel
theorem at255_882 : jm_at 255 882 = some (.iconst 4) := by decide +kernel
theorem at255_883 : jm_at 255 883 = some (.iadd) := by decide +kernel
theorem at255_884 : jm_at 255 884 = some (.iaload) := by decide +kernel
theorem at255_885 : jm_at 255 885 = some (.aload_n 0) := by decide +kernel
theorem at255_886 : jm_at 255 886 = some (.iload_n 3) := by decide +kernel
theorem at255_887 : jm_at 255 887 = some (.iconst 5) := by decide +kernel
theorem at255_888 : jm_at 255 888 = some (.iadd) := by decide +kernel
theorem at255_889 : jm_at 255 889 = some (.iaload) := by decide +kernel
theorem at255_890 : jm_at 255 890 = some (.invokevirtual 88) := by decide +kernel
theorem rv255i_88 : jm_rv 255 (.invokevirtual 88) = (2, 229, 0, 0) := by decide +kernel
theorem u255_863 {L : Nat} {xs : Nat → Int32} {H : jm_H} {Q : Option Value → jm_H → Prop} {r1 r2 : Nat} {x3 p0 : Int32} (h0 : ¬ ((x3 + (1 : Int32)) < 0 ∨ L ≤ Int32.toNatClampNeg (x3 + (1 : Int32)))) (h1 : ¬ ((x3 + (2 : Int32)) < 0 ∨ L ≤ Int32.toNatClampNeg (x3 + (2 : Int32)))) (h2 : ¬ ((x3 + (3 : Int32)) < 0 ∨ L ≤ Int32.toNatClampNeg (x3 + (3 : Int32)))) (h3 : ¬ ((x3 + (4 : Int32)) < 0 ∨ L ≤ Int32.toNatClampNeg (x3 + (4 : Int32)))) (h4 : ¬ ((x3 + (5 : Int32)) < 0 ∨ L ≤ Int32.toNatClampNeg (x3 + (5 : Int32)))) (h5 : jm_tg H r2 = 13) : jm_w (some (L, xs)) 49 255 863 [.ref 1, .ref r1, .ref r2, .int x3] [.int p0] H Q = jm_c (some (L, xs)) 229 [.ref r2, .int (xs (Int32.toNatClampNeg (x3 + (1 : Int32)))), .int (xs (Int32.toNatClampNeg (x3 + (2 : Int32)))), .int (xs (Int32.toNatClampNeg (x3 + (3 : Int32)))), .int (xs (Int32.toNatClampNeg (x3 + (4 : Int32)))), .int (xs (Int32.toNatClampNeg (x3 + (5 : Int32))))] H (fun v G => jm_w (some (L, xs)) 49 255 893 [.ref 1, .ref r1, .ref r2, .int x3] (v.toList ++ []) G Q) := (js0 at255_863 rfl rfl rfl).trans ((js1 at255_864 rfl rfl rfl).trans ((js1 at255_865 rfl rfl rfl).trans ((js1 at255_866 rfl rfl rfl).trans ((jsci at255_867 rfl rfl).trans ((js0 at255_868 rfl rfl rfl).trans ((jssal (H := H) at255_869 h0 rfl).trans ((js1 at255_870 rfl rfl rfl).trans ((js1 at255_871 rfl rfl rfl).trans ((jsci at255_872 rfl rfl).trans ((js0 at255_873 rfl rfl rfl).trans ((jssal (H := H) at255_874 h1 rfl).trans ((js1 at255_875 rfl rfl rfl).trans ((js1 at255_876 rfl rfl rfl).trans ((jsci at255_877 rfl rfl).trans ((js0 at255_878 rfl rfl rfl).trans ((jssal (H := H) at255_879 h2 rfl).trans ((js1 at255_880 rfl rfl rfl).trans ((js1 at255_881 rfl rfl rfl).trans ((jsci at255_882 rfl rfl).trans ((js0 at255_883 rfl rfl rfl).trans ((jssal (H := H) at255_884 h3 rfl).trans ((js1 at255_885 rfl rfl rfl).trans ((js1 at255_886 rfl rfl rfl).trans ((jsci at255_887 rfl rfl).trans ((js0 at255_888 rfl rfl rfl).trans ((jssal (H := H) at255_889 h4 rfl).trans (jscall (H := H) (as := [.ref r2, .int (xs (Int32.toNatClampNeg (x3 + (1 : Int32)))), .int (xs (Int32.toNatClampNeg (x3 + (2 : Int32)))), .int (xs (Int32.toNatClampNeg (x3 + (3 : Int32)))), .int (xs (Int32.toNatClampNeg (x3 + (4 : Int32)))), .int (xs (Int32.toNatClampNeg (x3 + (5 : Int32))))]) (q := []) at255_890 rfl rv255i_88 (jscutV rfl rfl rfl (Nat.le_of_ble_eq_true rfl) rfl h5) rfl (Nat.le_of_ble_eq_true rfl) rfl rfl)))))))))))))))))))))))))))
theorem at255_893 : jm_at 255 893 = some (.pop) := by decide +kernel
theorem at255_894 : jm_at 255 894 = some (.goto 436) := by decide +kernel
theorem u255_893 {L : Nat} {xs : Nat → Int32} {H : jm_H} {Q : Option Value → jm_H → Prop} {r1 r2 : Nat} {x3 p0 : Int32} : jm_w (some (L, xs)) 49 255 893 [.ref 1, .ref r1, .ref r2, .int x3] [.int p0] H Q = jm_w (some (L, xs)) 49 255 1330 [.ref 1, .ref r1, .ref r2, .int x3] [] H Q := (js0 at255_893 rfl rfl rfl).trans (js2 at255_894 rfl rfl)
theorem at255_897 : jm_at 255 897 = some (.aload_n 1) := by decide +kernel
theorem at255_898 : jm_at 255 898 = some (.aload_n 0) := by decide +kernel
theorem at255_899 : jm_at 255 899 = some (.iload_n 3) := by decide +kernel
theorem at255_900 : jm_at 255 900 = some (.iconst 1) := by decide +kernel
theorem at255_901 : jm_at 255 901 = some (.iadd) := by decide +kernel
theorem at255_902 : jm_at 255 902 = some (.iaload) := by decide +kernel
theorem at255_903 : jm_at 255 903 = some (.aload_n 0) := by decide +kernel
theorem at255_904 : jm_at 255 904 = some (.iload_n 3) := by decide +kernel
theorem at255_905 : jm_at 255 905 = some (.iconst 2) := by decide +kernel
theorem at255_906 : jm_at 255 906 = some (.iadd) := by decide +kernel
theorem at255_907 : jm_at 255 907 = some (.iaload) := by decide +kernel
theorem at255_908 : jm_at 255 908 = some (.aload_n 0) := by decide +kernel
theorem at255_909 : jm_at 255 909 = some (.iload_n 3) := by decide +kernel
theorem at255_910 : jm_at 255 910 = some (.iconst 3) := by decide +kernel
theorem at255_911 : jm_at 255 911 = some (.iadd) := by decide +kernel
theorem at255_912 : jm_at 255 912 = some (.iaload) := by decide +kernel
theorem at255_913 : jm_at 255 913 = some (.aload_n 0) := by decide +kernel
theorem at255_914 : jm_at 255 914 = some (.iload_n 3) := by decide +kernel
theorem at255_915 : jm_at 255 915 = some (.iconst 4) := by decide +kernel
theorem at255_916 : jm_at 255 916 = some (.iadd) := by decide +kernel
theorem at255_917 : jm_at 255 917 = some (.iaload) := by decide +kernel
theorem at255_918 : jm_at 255 918 = some (.invokevirtual 89) := by decide +kernel
theorem rv255i_89 : jm_rv 255 (.invokevirtual 89) = (2, 118, 0, 0) := by decide +kernel
theorem u255_897 {L : Nat} {xs : Nat → Int32} {H : jm_H} {Q : Option Value → jm_H → Prop} {r1 r2 : Nat} {x3 : Int32} (h0 : ¬ ((x3 + (1 : Int32)) < 0 ∨ L ≤ Int32.toNatClampNeg (x3 + (1 : Int32)))) (h1 : ¬ ((x3 + (2 : Int32)) < 0 ∨ L ≤ Int32.toNatClampNeg (x3 + (2 : Int32)))) (h2 : ¬ ((x3 + (3 : Int32)) < 0 ∨ L ≤ Int32.toNatClampNeg (x3 + (3 : Int32)))) (h3 : ¬ ((x3 + (4 : Int32)) < 0 ∨ L ≤ Int32.toNatClampNeg (x3 + (4 : Int32)))) (h4 : jm_tg H r1 = 12) : jm_w (some (L, xs)) 49 255 897 [.ref 1, .ref r1, .ref r2, .int x3] [] H Q = jm_c (some (L, xs)) 118 [.ref r1, .int (xs (Int32.toNatClampNeg (x3 + (1 : Int32)))), .int (xs (Int32.toNatClampNeg (x3 + (2 : Int32)))), .int (xs (Int32.toNatClampNeg (x3 + (3 : Int32)))), .int (xs (Int32.toNatClampNeg (x3 + (4 : Int32))))] H (fun v G => jm_w (some (L, xs)) 49 255 921 [.ref 1, .ref r1, .ref r2, .int x3] (v.toList ++ []) G Q) := (js1 at255_897 rfl rfl rfl).trans ((js1 at255_898 rfl rfl rfl).trans ((js1 at255_899 rfl rfl rfl).trans ((jsci at255_900 rfl rfl).trans ((js0 at255_901 rfl rfl rfl).trans ((jssal (H := H) at255_902 h0 rfl).trans ((js1 at255_903 rfl rfl rfl).trans ((js1 at255_904 rfl rfl rfl).trans ((jsci at255_905 rfl rfl).trans ((js0 at255_906 rfl rfl rfl).trans ((jssal (H := H) at255_907 h1 rfl).trans ((js1 at255_908 rfl rfl rfl).trans ((js1 at255_909 rfl rfl rfl).trans ((jsci at255_910 rfl rfl).trans ((js0 at255_911 rfl rfl rfl).trans ((jssal (H := H) at255_912 h2 rfl).trans ((js1 at255_913 rfl rfl rfl).trans ((js1 at255_914 rfl rfl rfl).trans ((jsci at255_915 rfl rfl).trans ((js0 at255_916 rfl rfl rfl).trans ((jssal (H := H) at255_917 h3 rfl).trans (jscall (H := H) (as := [.ref r1, .int (xs (Int32.toNatClampNeg (x3 + (1 : Int32)))), .int (xs (Int32.toNatClampNeg (x3 + (2 : Int32)))), .int (xs (Int32.toNatClampNeg (x3 + (3 : Int32)))), .int (xs (Int32.toNatClampNeg (x3 + (4 : Int32))))]) (q := []) at255_918 rfl rv255i_89 (jscutV rfl rfl rfl (Nat.le_of_ble_eq_true rfl) rfl h4) rfl (Nat.le_of_ble_eq_true rfl) rfl rfl)))))))))))))))))))))
theorem at255_921 : jm_at 255 921 = some (.pop) := by decide +kernel
theorem at255_922 : jm_at 255 922 = some (.aload_n 2) := by decide +kernel
theorem at255_923 : jm_at 255 923 = some (.aload_n 0) := by decide +kernel
theorem at255_924 : jm_at 255 924 = some (.iload_n 3) := by decide +kernel
theorem at255_925 : jm_at 255 925 = some (.iconst 1) := by decide +kernel
theorem at255_926 : jm_at 255 926 = some (.iadd) := by decide +kernel
theorem at255_927 : jm_at 255 927 = some (.iaload) := by decide +kernel
theorem at255_928 : jm_at 255 928 = some (.aload_n 0) := by decide +kernel
theorem at255_929 : jm_at 255 929 = some (.iload_n 3) := by decide +kernel
theorem at255_930 : jm_at 255 930 = some (.iconst 2) := by decide +kernel
theorem at255_931 : jm_at 255 931 = some (.iadd) := by decide +kernel
theorem at255_932 : jm_at 255 932 = some (.iaload) := by decide +kernel
theorem at255_933 : jm_at 255 933 = some (.aload_n 0) := by decide +kernel
theorem at255_934 : jm_at 255 934 = some (.iload_n 3) := by decide +kernel
theorem at255_935 : jm_at 255 935 = some (.iconst 3) := by decide +kernel
theorem at255_936 : jm_at 255 936 = some (.iadd) := by decide +kernel
theorem at255_937 : jm_at 255 937 = some (.iaload) := by decide +kernel
theorem at255_938 : jm_at 255 938 = some (.aload_n 0) := by decide +kernel
theorem at255_939 : jm_at 255 939 = some (.iload_n 3) := by decide +kernel
theorem at255_940 : jm_at 255 940 = some (.iconst 4) := by decide +kernel
theorem at255_941 : jm_at 255 941 = some (.iadd) := by decide +kernel
theorem at255_942 : jm_at 255 942 = some (.iaload) := by decide +kernel
theorem at255_943 : jm_at 255 943 = some (.invokevirtual 92) := by decide +kernel
theorem rv255i_92 : jm_rv 255 (.invokevirtual 92) = (2, 237, 0, 0) := by decide +kernel
theorem u255_921 {L : Nat} {xs : Nat → Int32} {H : jm_H} {Q : Option Value → jm_H → Prop} {r1 r2 : Nat} {x3 p0 : Int32} (h0 : ¬ ((x3 + (1 : Int32)) < 0 ∨ L ≤ Int32.toNatClampNeg (x3 + (1 : Int32)))) (h1 : ¬ ((x3 + (2 : Int32)) < 0 ∨ L ≤ Int32.toNatClampNeg (x3 + (2 : Int32)))) (h2 : ¬ ((x3 + (3 : Int32)) < 0 ∨ L ≤ Int32.toNatClampNeg (x3 + (3 : Int32)))) (h3 : ¬ ((x3 + (4 : Int32)) < 0 ∨ L ≤ Int32.toNatClampNeg (x3 + (4 : Int32)))) (h4 : jm_tg H r2 = 13) : jm_w (some (L, xs)) 49 255 921 [.ref 1, .ref r1, .ref r2, .int x3] [.int p0] H Q = jm_c (some (L, xs)) 237 [.ref r2, .int (xs (Int32.toNatClampNeg (x3 + (1 : Int32)))), .int (xs (Int32.toNatClampNeg (x3 + (2 : Int32)))), .int (xs (Int32.toNatClampNeg (x3 + (3 : Int32)))), .int (xs (Int32.toNatClampNeg (x3 + (4 : Int32))))] H (fun v G => jm_w (some (L, xs)) 49 255 946 [.ref 1, .ref r1, .ref r2, .int x3] (v.toList ++ []) G Q) := (js0 at255_921 rfl rfl rfl).trans ((js1 at255_922 rfl rfl rfl).trans ((js1 at255_923 rfl rfl rfl).trans ((js1 at255_924 rfl rfl rfl).trans ((jsci at255_925 rfl rfl).trans ((js0 at255_926 rfl rfl rfl).trans ((jssal (H := H) at255_927 h0 rfl).trans ((js1 at255_928 rfl rfl rfl).trans ((js1 at255_929 rfl rfl rfl).trans ((jsci at255_930 rfl rfl).trans ((js0 at255_931 rfl rfl rfl).trans ((jssal (H := H) at255_932 h1 rfl).trans ((js1 at255_933 rfl rfl rfl).trans ((js1 at255_934 rfl rfl rfl).trans ((jsci at255_935 rfl rfl).trans ((js0 at255_936 rfl rfl rfl).trans ((jssal (H := H) at255_937 h2 rfl).trans ((js1 at255_938 rfl rfl rfl).trans ((js1 at255_939 rfl rfl rfl).trans ((jsci at255_940 rfl rfl).trans ((js0 at255_941 rfl rfl rfl).trans ((jssal (H := H) at255_942 h3 rfl).trans (jscall (H := H) (as := [.ref r2, .int (xs (Int32.toNatClampNeg (x3 + (1 : Int32)))), .int (xs (Int32.toNatClampNeg (x3 + (2 : Int32)))), .int (xs (Int32.toNatClampNeg (x3 + (3 : Int32)))), .int (xs (Int32.toNatClampNeg (x3 + (4 : Int32))))]) (q := []) at255_943 rfl rv255i_92 (jscutV rfl rfl rfl (Nat.le_of_ble_eq_true rfl) rfl h4) rfl (Nat.le_of_ble_eq_true rfl) rfl rfl))))))))))))))))))))))
theorem at255_946 : jm_at 255 946 = some (.pop) := by decide +kernel
theorem at255_947 : jm_at 255 947 = some (.goto 383) := by decide +kernel
theorem u255_946 {L : Nat} {xs : Nat → Int32} {H : jm_H} {Q : Option Value → jm_H → Prop} {r1 r2 : Nat} {x3 p0 : Int32} : jm_w (some (L, xs)) 49 255 946 [.ref 1, .ref r1, .ref r2, .int x3] [.int p0] H Q = jm_w (some (L, xs)) 49 255 1330 [.ref 1, .ref r1, .ref r2, .int x3] [] H Q := (js0 at255_946 rfl rfl rfl).trans (js2 at255_947 rfl rfl)
theorem at255_950 : jm_at 255 950 = some (.aload_n 1) := by decide +kernel
theorem at255_951 : jm_at 255 951 = some (.aload_n 0) := by decide +kernel
theorem at255_952 : jm_at 255 952 = some (.iload_n 3) := by decide +kernel
theorem at255_953 : jm_at 255 953 = some (.iconst 1) := by decide +kernel
theorem at255_954 : jm_at 255 954 = some (.iadd) := by decide +kernel
theorem at255_955 : jm_at 255 955 = some (.iaload) := by decide +kernel
theorem at255_956 : jm_at 255 956 = some (.aload_n 0) := by decide +kernel
theorem at255_957 : jm_at 255 957 = some (.iload_n 3) := by decide +kernel
theorem at255_958 : jm_at 255 958 = some (.iconst 2) := by decide +kernel
theorem at255_959 : jm_at 255 959 = some (.iadd) := by decide +kernel
theorem at255_960 : jm_at 255 960 = some (.iaload) := by decide +kernel
theorem at255_961 : jm_at 255 961 = some (.aload_n 0) := by decide +kernel
theorem at255_962 : jm_at 255 962 = some (.iload_n 3) := by decide +kernel
theorem at255_963 : jm_at 255 963 = some (.iconst 3) := by decide +kernel
theorem at255_964 : jm_at 255 964 = some (.iadd) := by decide +kernel
theorem at255_965 : jm_at 255 965 = some (.iaload) := by decide +kernel
theorem at255_966 : jm_at 255 966 = some (.aload_n 0) := by decide +kernel
theorem at255_967 : jm_at 255 967 = some (.iload_n 3) := by decide +kernel
theorem at255_968 : jm_at 255 968 = some (.iconst 4) := by decide +kernel
theorem at255_969 : jm_at 255 969 = some (.iadd) := by decide +kernel
theorem at255_970 : jm_at 255 970 = some (.iaload) := by decide +kernel
theorem at255_971 : jm_at 255 971 = some (.aload_n 0) := by decide +kernel
theorem at255_972 : jm_at 255 972 = some (.iload_n 3) := by decide +kernel
theorem at255_973 : jm_at 255 973 = some (.iconst 5) := by decide +kernel
theorem at255_974 : jm_at 255 974 = some (.iadd) := by decide +kernel
theorem at255_975 : jm_at 255 975 = some (.iaload) := by decide +kernel
theorem at255_976 : jm_at 255 976 = some (.invokevirtual 93) := by decide +kernel
theorem rv255i_93 : jm_rv 255 (.invokevirtual 93) = (2, 138, 0, 0) := by decide +kernel
theorem u255_950 {L : Nat} {xs : Nat → Int32} {H : jm_H} {Q : Option Value → jm_H → Prop} {r1 r2 : Nat} {x3 : Int32} (h0 : ¬ ((x3 + (1 : Int32)) < 0 ∨ L ≤ Int32.toNatClampNeg (x3 + (1 : Int32)))) (h1 : ¬ ((x3 + (2 : Int32)) < 0 ∨ L ≤ Int32.toNatClampNeg (x3 + (2 : Int32)))) (h2 : ¬ ((x3 + (3 : Int32)) < 0 ∨ L ≤ Int32.toNatClampNeg (x3 + (3 : Int32)))) (h3 : ¬ ((x3 + (4 : Int32)) < 0 ∨ L ≤ Int32.toNatClampNeg (x3 + (4 : Int32)))) (h4 : ¬ ((x3 + (5 : Int32)) < 0 ∨ L ≤ Int32.toNatClampNeg (x3 + (5 : Int32)))) (h5 : jm_tg H r1 = 12) : jm_w (some (L, xs)) 49 255 950 [.ref 1, .ref r1, .ref r2, .int x3] [] H Q = jm_c (some (L, xs)) 138 [.ref r1, .int (xs (Int32.toNatClampNeg (x3 + (1 : Int32)))), .int (xs (Int32.toNatClampNeg (x3 + (2 : Int32)))), .int (xs (Int32.toNatClampNeg (x3 + (3 : Int32)))), .int (xs (Int32.toNatClampNeg (x3 + (4 : Int32)))), .int (xs (Int32.toNatClampNeg (x3 + (5 : Int32))))] H (fun v G => jm_w (some (L, xs)) 49 255 979 [.ref 1, .ref r1, .ref r2, .int x3] (v.toList ++ []) G Q) := (js1 at255_950 rfl rfl rfl).trans ((js1 at255_951 rfl rfl rfl).trans ((js1 at255_952 rfl rfl rfl).trans ((jsci at255_953 rfl rfl).trans ((js0 at255_954 rfl rfl rfl).trans ((jssal (H := H) at255_955 h0 rfl).trans ((js1 at255_956 rfl rfl rfl).trans ((js1 at255_957 rfl rfl rfl).trans ((jsci at255_958 rfl rfl).trans ((js0 at255_959 rfl rfl rfl).trans ((jssal (H := H) at255_960 h1 rfl).trans ((js1 at255_961 rfl rfl rfl).trans ((js1 at255_962 rfl rfl rfl).trans ((jsci at255_963 rfl rfl).trans ((js0 at255_964 rfl rfl rfl).trans ((jssal (H := H) at255_965 h2 rfl).trans ((js1 at255_966 rfl rfl rfl).trans ((js1 at255_967 rfl rfl rfl).trans ((jsci at255_968 rfl rfl).trans ((js0 at255_969 rfl rfl rfl).trans ((jssal (H := H) at255_970 h3 rfl).trans ((js1 at255_971 rfl rfl rfl).trans ((js1 at255_972 rfl rfl rfl).trans ((jsci at255_973 rfl rfl).trans ((js0 at255_974 rfl rfl rfl).trans ((jssal (H := H) at255_975 h4 rfl).trans (jscall (H := H) (as := [.ref r1, .int (xs (Int32.toNatClampNeg (x3 + (1 : Int32)))), .int (xs (Int32.toNatClampNeg (x3 + (2 : Int32)))), .int (xs (Int32.toNatClampNeg (x3 + (3 : Int32)))), .int (xs (Int32.toNatClampNeg (x3 + (4 : Int32)))), .int (xs (Int32.toNatClampNeg (x3 + (5 : Int32))))]) (q := []) at255_976 rfl rv255i_93 (jscutV rfl rfl rfl (Nat.le_of_ble_eq_true rfl) rfl h5) rfl (Nat.le_of_ble_eq_true rfl) rfl rfl))))))))))))))))))))))))))
theorem at255_979 : jm_at 255 979 = some (.pop) := by decide +kernel
theorem at255_980 : jm_at 255 980 = some (.aload_n 2) := by decide +kernel
theorem at255_981 : jm_at 255 981 = some (.aload_n 0) := by decide +kernel
theorem at255_982 : jm_at 255 982 = some (.iload_n 3) := by decide +kernel
theorem at255_983 : jm_at 255 983 = some (.iconst 1) := by decide +kernel
theorem at255_984 : jm_at 255 984 = some (.iadd) := by decide +kernel
theorem at255_985 : jm_at 255 985 = some (.iaload) := by decide +kernel
theorem at255_986 : jm_at 255 986 = some (.aload_n 0) := by decide +kernel
theorem at255_987 : jm_at 255 987 = some (.iload_n 3) := by decide +kernel
theorem at255_988 : jm_at 255 988 = some (.iconst 2) := by decide +kernel
theorem at255_989 : jm_at 255 989 = some (.iadd) := by decide +kernel
theorem at255_990 : jm_at 255 990 = some (.iaload) := by decide +kernel
theorem at255_991 : jm_at 255 991 = some (.aload_n 0) := by decide +kernel
theorem at255_992 : jm_at 255 992 = some (.iload_n 3) := by decide +kernel
theorem at255_993 : jm_at 255 993 = some (.iconst 3) := by decide +kernel
theorem at255_994 : jm_at 255 994 = some (.iadd) := by decide +kernel
theorem at255_995 : jm_at 255 995 = some (.iaload) := by decide +kernel
theorem at255_996 : jm_at 255 996 = some (.aload_n 0) := by decide +kernel
theorem at255_997 : jm_at 255 997 = some (.iload_n 3) := by decide +kernel
theorem at255_998 : jm_at 255 998 = some (.iconst 4) := by decide +kernel
theorem at255_999 : jm_at 255 999 = some (.iadd) := by decide +kernel
theorem at255_1000 : jm_at 255 1000 = some (.iaload) := by decide +kernel
theorem at255_1001 : jm_at 255 1001 = some (.aload_n 0) := by decide +kernel
theorem at255_1002 : jm_at 255 1002 = some (.iload_n 3) := by decide +kernel
theorem at255_1003 : jm_at 255 1003 = some (.iconst 5) := by decide +kernel
theorem at255_1004 : jm_at 255 1004 = some (.iadd) := by decide +kernel
theorem at255_1005 : jm_at 255 1005 = some (.iaload) := by decide +kernel
theorem at255_1006 : jm_at 255 1006 = some (.invokevirtual 96) := by decide +kernel
theorem rv255i_96 : jm_rv 255 (.invokevirtual 96) = (2, 241, 0, 0) := by decide +kernel
theorem u255_979 {L : Nat} {xs : Nat → Int32} {H : jm_H} {Q : Option Value → jm_H → Prop} {r1 r2 : Nat} {x3 p0 : Int32} (h0 : ¬ ((x3 + (1 : Int32)) < 0 ∨ L ≤ Int32.toNatClampNeg (x3 + (1 : Int32)))) (h1 : ¬ ((x3 + (2 : Int32)) < 0 ∨ L ≤ Int32.toNatClampNeg (x3 + (2 : Int32)))) (h2 : ¬ ((x3 + (3 : Int32)) < 0 ∨ L ≤ Int32.toNatClampNeg (x3 + (3 : Int32)))) (h3 : ¬ ((x3 + (4 : Int32)) < 0 ∨ L ≤ Int32.toNatClampNeg (x3 + (4 : Int32)))) (h4 : ¬ ((x3 + (5 : Int32)) < 0 ∨ L ≤ Int32.toNatClampNeg (x3 + (5 : Int32)))) (h5 : jm_tg H r2 = 13) : jm_w (some (L, xs)) 49 255 979 [.ref 1, .ref r1, .ref r2, .int x3] [.int p0] H Q = jm_c (some (L, xs)) 241 [.ref r2, .int (xs (Int32.toNatClampNeg (x3 + (1 : Int32)))), .int (xs (Int32.toNatClampNeg (x3 + (2 : Int32)))), .int (xs (Int32.toNatClampNeg (x3 + (3 : Int32)))), .int (xs (Int32.toNatClampNeg (x3 + (4 : Int32)))), .int (xs (Int32.toNatClampNeg (x3 + (5 : Int32))))] H (fun v G => jm_w (some (L, xs)) 49 255 1009 [.ref 1, .ref r1, .ref r2, .int x3] (v.toList ++ []) G Q) := (js0 at255_979 rfl rfl rfl).trans ((js1 at255_980 rfl rfl rfl).trans ((js1 at255_981 rfl rfl rfl).trans ((js1 at255_982 rfl rfl rfl).trans ((jsci at255_983 rfl rfl).trans ((js0 at255_984 rfl rfl rfl).trans ((jssal (H := H) at255_985 h0 rfl).trans ((js1 at255_986 rfl rfl rfl).trans ((js1 at255_987 rfl rfl rfl).trans ((jsci at255_988 rfl rfl).trans ((js0 at255_989 rfl rfl rfl).trans ((jssal (H := H) at255_990 h1 rfl).trans ((js1 at255_991 rfl rfl rfl).trans ((js1 at255_992 rfl rfl rfl).trans ((jsci at255_993 rfl rfl).trans ((js0 at255_994 rfl rfl rfl).trans ((jssal (H := H) at255_995 h2 rfl).trans ((js1 at255_996 rfl rfl rfl).trans ((js1 at255_997 rfl rfl rfl).trans ((jsci at255_998 rfl rfl).trans ((js0 at255_999 rfl rfl rfl).trans ((jssal (H := H) at255_1000 h3 rfl).trans ((js1 at255_1001 rfl rfl rfl).trans ((js1 at255_1002 rfl rfl rfl).trans ((jsci at255_1003 rfl rfl).trans ((js0 at255_1004 rfl rfl rfl).trans ((jssal (H := H) at255_1005 h4 rfl).trans (jscall (H := H) (as := [.ref r2, .int (xs (Int32.toNatClampNeg (x3 + (1 : Int32)))), .int (xs (Int32.toNatClampNeg (x3 + (2 : Int32)))), .int (xs (Int32.toNatClampNeg (x3 + (3 : Int32)))), .int (xs (Int32.toNatClampNeg (x3 + (4 : Int32)))), .int (xs (Int32.toNatClampNeg (x3 + (5 : Int32))))]) (q := []) at255_1006 rfl rv255i_96 (jscutV rfl rfl rfl (Nat.le_of_ble_eq_true rfl) rfl h5) rfl (Nat.le_of_ble_eq_true rfl) rfl rfl)))))))))))))))))))))))))))
theorem at255_1009 : jm_at 255 1009 = some (.pop) := by decide +kernel
theorem at255_1010 : jm_at 255 1010 = some (.goto 320) := by decide +kernel
theorem u255_1009 {L : Nat} {xs : Nat → Int32} {H : jm_H} {Q : Option Value → jm_H → Prop} {r1 r2 : Nat} {x3 p0 : Int32} : jm_w (some (L, xs)) 49 255 1009 [.ref 1, .ref r1, .ref r2, .int x3] [.int p0] H Q = jm_w (some (L, xs)) 49 255 1330 [.ref 1, .ref r1, .ref r2, .int x3] [] H Q := (js0 at255_1009 rfl rfl rfl).trans (js2 at255_1010 rfl rfl)
theorem at255_1013 : jm_at 255 1013 = some (.aload_n 1) := by decide +kernel
theorem at255_1014 : jm_at 255 1014 = some (.aload_n 0) := by decide +kernel
theorem at255_1015 : jm_at 255 1015 = some (.iload_n 3) := by decide +kernel
theorem at255_1016 : jm_at 255 1016 = some (.iconst 1) := by decide +kernel
theorem at255_1017 : jm_at 255 1017 = some (.iadd) := by decide +kernel
theorem at255_1018 : jm_at 255 1018 = some (.iaload) := by decide +kernel
theorem at255_1019 : jm_at 255 1019 = some (.invokevirtual 97) := by decide +kernel
theorem rv255i_97 : jm_rv 255 (.invokevirtual 97) = (2, 145, 0, 0) := by decide +kernel
theorem u255_1013 {L : Nat} {xs : Nat → Int32} {H : jm_H} {Q : Option Value → jm_H → Prop} {r1 r2 : Nat} {x3 : Int32} (h0 : ¬ ((x3 + (1 : Int32)) < 0 ∨ L ≤ Int32.toNatClampNeg (x3 + (1 : Int32)))) (h1 : jm_tg H r1 = 12) : jm_w (some (L, xs)) 49 255 1013 [.ref 1, .ref r1, .ref r2, .int x3] [] H Q = jm_c (some (L, xs)) 145 [.ref r1, .int (xs (Int32.toNatClampNeg (x3 + (1 : Int32))))] H (fun v G => jm_w (some (L, xs)) 49 255 1022 [.ref 1, .ref r1, .ref r2, .int x3] (v.toList ++ []) G Q) := (js1 at255_1013 rfl rfl rfl).trans ((js1 at255_1014 rfl rfl rfl).trans ((js1 at255_1015 rfl rfl rfl).trans ((jsci at255_1016 rfl rfl).trans ((js0 at255_1017 rfl rfl rfl).trans ((jssal (H := H) at255_1018 h0 rfl).trans (jscall (H := H) (as := [.ref r1, .int (xs (Int32.toNatClampNeg (x3 + (1 : Int32))))]) (q := []) at255_1019 rfl rv255i_97 (jscutV rfl rfl rfl (Nat.le_of_ble_eq_true rfl) rfl h1) rfl (Nat.le_of_ble_eq_true rfl) rfl rfl))))))
theorem at255_1022 : jm_at 255 1022 = some (.pop) := by decide +kernel
theorem at255_1023 : jm_at 255 1023 = some (.aload_n 2) := by decide +kernel
theorem at255_1024 : jm_at 255 1024 = some (.aload_n 0) := by decide +kernel
theorem at255_1025 : jm_at 255 1025 = some (.iload_n 3) := by decide +kernel
theorem at255_1026 : jm_at 255 1026 = some (.iconst 1) := by decide +kernel
theorem at255_1027 : jm_at 255 1027 = some (.iadd) := by decide +kernel
theorem at255_1028 : jm_at 255 1028 = some (.iaload) := by decide +kernel
theorem at255_1029 : jm_at 255 1029 = some (.invokevirtual 100) := by decide +kernel
theorem rv255i_100 : jm_rv 255 (.invokevirtual 100) = (2, 246, 0, 0) := by decide +kernel
theorem u255_1022 {L : Nat} {xs : Nat → Int32} {H : jm_H} {Q : Option Value → jm_H → Prop} {r1 r2 : Nat} {x3 p0 : Int32} (h0 : ¬ ((x3 + (1 : Int32)) < 0 ∨ L ≤ Int32.toNatClampNeg (x3 + (1 : Int32)))) (h1 : jm_tg H r2 = 13) : jm_w (some (L, xs)) 49 255 1022 [.ref 1, .ref r1, .ref r2, .int x3] [.int p0] H Q = jm_c (some (L, xs)) 246 [.ref r2, .int (xs (Int32.toNatClampNeg (x3 + (1 : Int32))))] H (fun v G => jm_w (some (L, xs)) 49 255 1032 [.ref 1, .ref r1, .ref r2, .int x3] (v.toList ++ []) G Q) := (js0 at255_1022 rfl rfl rfl).trans ((js1 at255_1023 rfl rfl rfl).trans ((js1 at255_1024 rfl rfl rfl).trans ((js1 at255_1025 rfl rfl rfl).trans ((jsci at255_1026 rfl rfl).trans ((js0 at255_1027 rfl rfl rfl).trans ((jssal (H := H) at255_1028 h0 rfl).trans (jscall (H := H) (as := [.ref r2, .int (xs (Int32.toNatClampNeg (x3 + (1 : Int32))))]) (q := []) at255_1029 rfl rv255i_100 (jscutV rfl rfl rfl (Nat.le_of_ble_eq_true rfl) rfl h1) rfl (Nat.le_of_ble_eq_true rfl) rfl rfl)))))))
theorem at255_1032 : jm_at 255 1032 = some (.pop) := by decide +kernel
theorem at255_1033 : jm_at 255 1033 = some (.goto 297) := by decide +kernel
theorem u255_1032 {L : Nat} {xs : Nat → Int32} {H : jm_H} {Q : Option Value → jm_H → Prop} {r1 r2 : Nat} {x3 p0 : Int32} : jm_w (some (L, xs)) 49 255 1032 [.ref 1, .ref r1, .ref r2, .int x3] [.int p0] H Q = jm_w (some (L, xs)) 49 255 1330 [.ref 1, .ref r1, .ref r2, .int x3] [] H Q := (js0 at255_1032 rfl rfl rfl).trans (js2 at255_1033 rfl rfl)
theorem at255_1036 : jm_at 255 1036 = some (.aload_n 1) := by decide +kernel
theorem at255_1037 : jm_at 255 1037 = some (.aload_n 0) := by decide +kernel
theorem at255_1038 : jm_at 255 1038 = some (.iload_n 3) := by decide +kernel
theorem at255_1039 : jm_at 255 1039 = some (.iconst 1) := by decide +kernel
theorem at255_1040 : jm_at 255 1040 = some (.iadd) := by decide +kernel
theorem at255_1041 : jm_at 255 1041 = some (.iaload) := by decide +kernel
theorem at255_1042 : jm_at 255 1042 = some (.aload_n 0) := by decide +kernel
theorem at255_1043 : jm_at 255 1043 = some (.iload_n 3) := by decide +kernel
theorem at255_1044 : jm_at 255 1044 = some (.iconst 2) := by decide +kernel
theorem at255_1045 : jm_at 255 1045 = some (.iadd) := by decide +kernel
theorem at255_1046 : jm_at 255 1046 = some (.iaload) := by decide +kernel
theorem at255_1047 : jm_at 255 1047 = some (.aload_n 0) := by decide +kernel
theorem at255_1048 : jm_at 255 1048 = some (.iload_n 3) := by decide +kernel
theorem at255_1049 : jm_at 255 1049 = some (.iconst 3) := by decide +kernel
theorem at255_1050 : jm_at 255 1050 = some (.iadd) := by decide +kernel
theorem at255_1051 : jm_at 255 1051 = some (.iaload) := by decide +kernel
theorem at255_1052 : jm_at 255 1052 = some (.aload_n 0) := by decide +kernel
theorem at255_1053 : jm_at 255 1053 = some (.iload_n 3) := by decide +kernel
theorem at255_1054 : jm_at 255 1054 = some (.iconst 4) := by decide +kernel
theorem at255_1055 : jm_at 255 1055 = some (.iadd) := by decide +kernel
theorem at255_1056 : jm_at 255 1056 = some (.iaload) := by decide +kernel
theorem at255_1057 : jm_at 255 1057 = some (.invokevirtual 101) := by decide +kernel
theorem rv255i_101 : jm_rv 255 (.invokevirtual 101) = (2, 141, 0, 0) := by decide +kernel
theorem u255_1036 {L : Nat} {xs : Nat → Int32} {H : jm_H} {Q : Option Value → jm_H → Prop} {r1 r2 : Nat} {x3 : Int32} (h0 : ¬ ((x3 + (1 : Int32)) < 0 ∨ L ≤ Int32.toNatClampNeg (x3 + (1 : Int32)))) (h1 : ¬ ((x3 + (2 : Int32)) < 0 ∨ L ≤ Int32.toNatClampNeg (x3 + (2 : Int32)))) (h2 : ¬ ((x3 + (3 : Int32)) < 0 ∨ L ≤ Int32.toNatClampNeg (x3 + (3 : Int32)))) (h3 : ¬ ((x3 + (4 : Int32)) < 0 ∨ L ≤ Int32.toNatClampNeg (x3 + (4 : Int32)))) (h4 : jm_tg H r1 = 12) : jm_w (some (L, xs)) 49 255 1036 [.ref 1, .ref r1, .ref r2, .int x3] [] H Q = jm_c (some (L, xs)) 141 [.ref r1, .int (xs (Int32.toNatClampNeg (x3 + (1 : Int32)))), .int (xs (Int32.toNatClampNeg (x3 + (2 : Int32)))), .int (xs (Int32.toNatClampNeg (x3 + (3 : Int32)))), .int (xs (Int32.toNatClampNeg (x3 + (4 : Int32))))] H (fun v G => jm_w (some (L, xs)) 49 255 1060 [.ref 1, .ref r1, .ref r2, .int x3] (v.toList ++ []) G Q) := (js1 at255_1036 rfl rfl rfl).trans ((js1 at255_1037 rfl rfl rfl).trans ((js1 at255_1038 rfl rfl rfl).trans ((jsci at255_1039 rfl rfl).trans ((js0 at255_1040 rfl rfl rfl).trans ((jssal (H := H) at255_1041 h0 rfl).trans ((js1 at255_1042 rfl rfl rfl).trans ((js1 at255_1043 rfl rfl rfl).trans ((jsci at255_1044 rfl rfl).trans ((js0 at255_1045 rfl rfl rfl).trans ((jssal (H := H) at255_1046 h1 rfl).trans ((js1 at255_1047 rfl rfl rfl).trans ((js1 at255_1048 rfl rfl rfl).trans ((jsci at255_1049 rfl rfl).trans ((js0 at255_1050 rfl rfl rfl).trans ((jssal (H := H) at255_1051 h2 rfl).trans ((js1 at255_1052 rfl rfl rfl).trans ((js1 at255_1053 rfl rfl rfl).trans ((jsci at255_1054 rfl rfl).trans ((js0 at255_1055 rfl rfl rfl).trans ((jssal (H := H) at255_1056 h3 rfl).trans (jscall (H := H) (as := [.ref r1, .int (xs (Int32.toNatClampNeg (x3 + (1 : Int32)))), .int (xs (Int32.toNatClampNeg (x3 + (2 : Int32)))), .int (xs (Int32.toNatClampNeg (x3 + (3 : Int32)))), .int (xs (Int32.toNatClampNeg (x3 + (4 : Int32))))]) (q := []) at255_1057 rfl rv255i_101 (jscutV rfl rfl rfl (Nat.le_of_ble_eq_true rfl) rfl h4) rfl (Nat.le_of_ble_eq_true rfl) rfl rfl)))))))))))))))))))))
theorem at255_1060 : jm_at 255 1060 = some (.pop) := by decide +kernel
theorem at255_1061 : jm_at 255 1061 = some (.aload_n 2) := by decide +kernel
theorem at255_1062 : jm_at 255 1062 = some (.aload_n 0) := by decide +kernel
theorem at255_1063 : jm_at 255 1063 = some (.iload_n 3) := by decide +kernel
theorem at255_1064 : jm_at 255 1064 = some (.iconst 1) := by decide +kernel
theorem at255_1065 : jm_at 255 1065 = some (.iadd) := by decide +kernel
theorem at255_1066 : jm_at 255 1066 = some (.iaload) := by decide +kernel
theorem at255_1067 : jm_at 255 1067 = some (.aload_n 0) := by decide +kernel
theorem at255_1068 : jm_at 255 1068 = some (.iload_n 3) := by decide +kernel
theorem at255_1069 : jm_at 255 1069 = some (.iconst 2) := by decide +kernel
theorem at255_1070 : jm_at 255 1070 = some (.iadd) := by decide +kernel
theorem at255_1071 : jm_at 255 1071 = some (.iaload) := by decide +kernel
theorem at255_1072 : jm_at 255 1072 = some (.aload_n 0) := by decide +kernel
theorem at255_1073 : jm_at 255 1073 = some (.iload_n 3) := by decide +kernel
theorem at255_1074 : jm_at 255 1074 = some (.iconst 3) := by decide +kernel
theorem at255_1075 : jm_at 255 1075 = some (.iadd) := by decide +kernel
theorem at255_1076 : jm_at 255 1076 = some (.iaload) := by decide +kernel
theorem at255_1077 : jm_at 255 1077 = some (.aload_n 0) := by decide +kernel
theorem at255_1078 : jm_at 255 1078 = some (.iload_n 3) := by decide +kernel
theorem at255_1079 : jm_at 255 1079 = some (.iconst 4) := by decide +kernel
theorem at255_1080 : jm_at 255 1080 = some (.iadd) := by decide +kernel
theorem at255_1081 : jm_at 255 1081 = some (.iaload) := by decide +kernel
theorem at255_1082 : jm_at 255 1082 = some (.invokevirtual 104) := by decide +kernel
theorem rv255i_104 : jm_rv 255 (.invokevirtual 104) = (2, 243, 0, 0) := by decide +kernel
theorem u255_1060 {L : Nat} {xs : Nat → Int32} {H : jm_H} {Q : Option Value → jm_H → Prop} {r1 r2 : Nat} {x3 p0 : Int32} (h0 : ¬ ((x3 + (1 : Int32)) < 0 ∨ L ≤ Int32.toNatClampNeg (x3 + (1 : Int32)))) (h1 : ¬ ((x3 + (2 : Int32)) < 0 ∨ L ≤ Int32.toNatClampNeg (x3 + (2 : Int32)))) (h2 : ¬ ((x3 + (3 : Int32)) < 0 ∨ L ≤ Int32.toNatClampNeg (x3 + (3 : Int32)))) (h3 : ¬ ((x3 + (4 : Int32)) < 0 ∨ L ≤ Int32.toNatClampNeg (x3 + (4 : Int32)))) (h4 : jm_tg H r2 = 13) : jm_w (some (L, xs)) 49 255 1060 [.ref 1, .ref r1, .ref r2, .int x3] [.int p0] H Q = jm_c (some (L, xs)) 243 [.ref r2, .int (xs (Int32.toNatClampNeg (x3 + (1 : Int32)))), .int (xs (Int32.toNatClampNeg (x3 + (2 : Int32)))), .int (xs (Int32.toNatClampNeg (x3 + (3 : Int32)))), .int (xs (Int32.toNatClampNeg (x3 + (4 : Int32))))] H (fun v G => jm_w (some (L, xs)) 49 255 1085 [.ref 1, .ref r1, .ref r2, .int x3] (v.toList ++ []) G Q) := (js0 at255_1060 rfl rfl rfl).trans ((js1 at255_1061 rfl rfl rfl).trans ((js1 at255_1062 rfl rfl rfl).trans ((js1 at255_1063 rfl rfl rfl).trans ((jsci at255_1064 rfl rfl).trans ((js0 at255_1065 rfl rfl rfl).trans ((jssal (H := H) at255_1066 h0 rfl).trans ((js1 at255_1067 rfl rfl rfl).trans ((js1 at255_1068 rfl rfl rfl).trans ((jsci at255_1069 rfl rfl).trans ((js0 at255_1070 rfl rfl rfl).trans ((jssal (H := H) at255_1071 h1 rfl).trans ((js1 at255_1072 rfl rfl rfl).trans ((js1 at255_1073 rfl rfl rfl).trans ((jsci at255_1074 rfl rfl).trans ((js0 at255_1075 rfl rfl rfl).trans ((jssal (H := H) at255_1076 h2 rfl).trans ((js1 at255_1077 rfl rfl rfl).trans ((js1 at255_1078 rfl rfl rfl).trans ((jsci at255_1079 rfl rfl).trans ((js0 at255_1080 rfl rfl rfl).trans ((jssal (H := H) at255_1081 h3 rfl).trans (jscall (H := H) (as := [.ref r2, .int (xs (Int32.toNatClampNeg (x3 + (1 : Int32)))), .int (xs (Int32.toNatClampNeg (x3 + (2 : Int32)))), .int (xs (Int32.toNatClampNeg (x3 + (3 : Int32)))), .int (xs (Int32.toNatClampNeg (x3 + (4 : Int32))))]) (q := []) at255_1082 rfl rv255i_104 (jscutV rfl rfl rfl (Nat.le_of_ble_eq_true rfl) rfl h4) rfl (Nat.le_of_ble_eq_true rfl) rfl rfl))))))))))))))))))))))
theorem at255_1085 : jm_at 255 1085 = some (.pop) := by decide +kernel
theorem at255_1086 : jm_at 255 1086 = some (.goto 244) := by decide +kernel
theorem u255_1085 {L : Nat} {xs : Nat → Int32} {H : jm_H} {Q : Option Value → jm_H → Prop} {r1 r2 : Nat} {x3 p0 : Int32} : jm_w (some (L, xs)) 49 255 1085 [.ref 1, .ref r1, .ref r2, .int x3] [.int p0] H Q = jm_w (some (L, xs)) 49 255 1330 [.ref 1, .ref r1, .ref r2, .int x3] [] H Q := (js0 at255_1085 rfl rfl rfl).trans (js2 at255_1086 rfl rfl)
theorem at255_1089 : jm_at 255 1089 = some (.aload_n 1) := by decide +kernel
theorem at255_1090 : jm_at 255 1090 = some (.aload_n 0) := by decide +kernel
theorem at255_1091 : jm_at 255 1091 = some (.iload_n 3) := by decide +kernel
theorem at255_1092 : jm_at 255 1092 = some (.iconst 1) := by decide +kernel
theorem at255_1093 : jm_at 255 1093 = some (.iadd) := by decide +kernel
theorem at255_1094 : jm_at 255 1094 = some (.iaload) := by decide +kernel
theorem at255_1095 : jm_at 255 1095 = some (.aload_n 0) := by decide +kernel
theorem at255_1096 : jm_at 255 1096 = some (.iload_n 3) := by decide +kernel
theorem at255_1097 : jm_at 255 1097 = some (.iconst 2) := by decide +kernel
theorem at255_1098 : jm_at 255 1098 = some (.iadd) := by decide +kernel
theorem at255_1099 : jm_at 255 1099 = some (.iaload) := by decide +kernel
theorem at255_1100 : jm_at 255 1100 = some (.aload_n 0) := by decide +kernel
theorem at255_1101 : jm_at 255 1101 = some (.iload_n 3) := by decide +kernel
theorem at255_1102 : jm_at 255 1102 = some (.iconst 3) := by decide +kernel
theorem at255_1103 : jm_at 255 1103 = some (.iadd) := by decide +kernel
theorem at255_1104 : jm_at 255 1104 = some (.iaload) := by decide +kernel
theorem at255_1105 : jm_at 255 1105 = some (.aload_n 0) := by decide +kernel
theorem at255_1106 : jm_at 255 1106 = some (.iload_n 3) := by decide +kernel
theorem at255_1107 : jm_at 255 1107 = some (.iconst 4) := by decide +kernel
theorem at255_1108 : jm_at 255 1108 = some (.iadd) := by decide +kernel
theorem at255_1109 : jm_at 255 1109 = some (.iaload) := by decide +kernel
theorem at255_1110 : jm_at 255 1110 = some (.aload_n 0) := by decide +kernel
theorem at255_1111 : jm_at 255 1111 = some (.iload_n 3) := by decide +kernel
theorem at255_1112 : jm_at 255 1112 = some (.iconst 5) := by decide +kernel
theorem at255_1113 : jm_at 255 1113 = some (.iadd) := by decide +kernel
theorem at255_1114 : jm_at 255 1114 = some (.iaload) := by decide +kernel
theorem at255_1115 : jm_at 255 1115 = some (.invokevirtual 105) := by decide +kernel
theorem rv255i_105 : jm_rv 255 (.invokevirtual 105) = (2, 123, 0, 0) := by decide +kernel
theorem u255_1089 {L : Nat} {xs : Nat → Int32} {H : jm_H} {Q : Option Value → jm_H → Prop} {r1 r2 : Nat} {x3 : Int32} (h0 : ¬ ((x3 + (1 : Int32)) < 0 ∨ L ≤ Int32.toNatClampNeg (x3 + (1 : Int32)))) (h1 : ¬ ((x3 + (2 : Int32)) < 0 ∨ L ≤ Int32.toNatClampNeg (x3 + (2 : Int32)))) (h2 : ¬ ((x3 + (3 : Int32)) < 0 ∨ L ≤ Int32.toNatClampNeg (x3 + (3 : Int32)))) (h3 : ¬ ((x3 + (4 : Int32)) < 0 ∨ L ≤ Int32.toNatClampNeg (x3 + (4 : Int32)))) (h4 : ¬ ((x3 + (5 : Int32)) < 0 ∨ L ≤ Int32.toNatClampNeg (x3 + (5 : Int32)))) (h5 : jm_tg H r1 = 12) : jm_w (some (L, xs)) 49 255 1089 [.ref 1, .ref r1, .ref r2, .int x3] [] H Q = jm_c (some (L, xs)) 123 [.ref r1, .int (xs (Int32.toNatClampNeg (x3 + (1 : Int32)))), .int (xs (Int32.toNatClampNeg (x3 + (2 : Int32)))), .int (xs (Int32.toNatClampNeg (x3 + (3 : Int32)))), .int (xs (Int32.toNatClampNeg (x3 + (4 : Int32)))), .int (xs (Int32.toNatClampNeg (x3 + (5 : Int32))))] H (fun v G => jm_w (some (L, xs)) 49 255 1118 [.ref 1, .ref r1, .ref r2, .int x3] (v.toList ++ []) G Q) := (js1 at255_1089 rfl rfl rfl).trans ((js1 at255_1090 rfl rfl rfl).trans ((js1 at255_1091 rfl rfl rfl).trans ((jsci at255_1092 rfl rfl).trans ((js0 at255_1093 rfl rfl rfl).trans ((jssal (H := H) at255_1094 h0 rfl).trans ((js1 at255_1095 rfl rfl rfl).trans ((js1 at255_1096 rfl rfl rfl).trans ((jsci at255_1097 rfl rfl).trans ((js0 at255_1098 rfl rfl rfl).trans ((jssal (H := H) at255_1099 h1 rfl).trans ((js1 at255_1100 rfl rfl rfl).trans ((js1 at255_1101 rfl rfl rfl).trans ((jsci at255_1102 rfl rfl).trans ((js0 at255_1103 rfl rfl rfl).trans ((jssal (H := H) at255_1104 h2 rfl).trans ((js1 at255_1105 rfl rfl rfl).trans ((js1 at255_1106 rfl rfl rfl).trans ((jsci at255_1107 rfl rfl).trans ((js0 at255_1108 rfl rfl rfl).trans ((jssal (H := H) at255_1109 h3 rfl).trans ((js1 at255_1110 rfl rfl rfl).trans ((js1 at255_1111 rfl rfl rfl).trans ((jsci at255_1112 rfl rfl).trans ((js0 at255_1113 rfl rfl rfl).trans ((jssal (H := H) at255_1114 h4 rfl).trans (jscall (H := H) (as := [.ref r1, .int (xs (Int32.toNatClampNeg (x3 + (1 : Int32)))), .int (xs (Int32.toNatClampNeg (x3 + (2 : Int32)))), .int (xs (Int32.toNatClampNeg (x3 + (3 : Int32)))), .int (xs (Int32.toNatClampNeg (x3 + (4 : Int32)))), .int (xs (Int32.toNatClampNeg (x3 + (5 : Int32))))]) (q := []) at255_1115 rfl rv255i_105 (jscutV rfl rfl rfl (Nat.le_of_ble_eq_true rfl) rfl h5) rfl (Nat.le_of_ble_eq_true rfl) rfl rfl))))))))))))))))))))))))))
theorem at255_1118 : jm_at 255 1118 = some (.pop2) := by decide +kernel
theorem at255_1119 : jm_at 255 1119 = some (.aload_n 2) := by decide +kernel
theorem at255_1120 : jm_at 255 1120 = some (.aload_n 0) := by decide +kernel
theorem at255_1121 : jm_at 255 1121 = some (.iload_n 3) := by decide +kernel
theorem at255_1122 : jm_at 255 1122 = some (.iconst 1) := by decide +kernel
theorem at255_1123 : jm_at 255 1123 = some (.iadd) := by decide +kernel
theorem at255_1124 : jm_at 255 1124 = some (.iaload) := by decide +kernel
theorem at255_1125 : jm_at 255 1125 = some (.aload_n 0) := by decide +kernel
theorem at255_1126 : jm_at 255 1126 = some (.iload_n 3) := by decide +kernel
theorem at255_1127 : jm_at 255 1127 = some (.iconst 2) := by decide +kernel
theorem at255_1128 : jm_at 255 1128 = some (.iadd) := by decide +kernel
theorem at255_1129 : jm_at 255 1129 = some (.iaload) := by decide +kernel
theorem at255_1130 : jm_at 255 1130 = some (.aload_n 0) := by decide +kernel
theorem at255_1131 : jm_at 255 1131 = some (.iload_n 3) := by decide +kernel
theorem at255_1132 : jm_at 255 1132 = some (.iconst 3) := by decide +kernel
theorem at255_1133 : jm_at 255 1133 = some (.iadd) := by decide +kernel
theorem at255_1134 : jm_at 255 1134 = some (.iaload) := by decide +kernel
theorem at255_1135 : jm_at 255 1135 = some (.aload_n 0) := by decide +kernel
theorem at255_1136 : jm_at 255 1136 = some (.iload_n 3) := by decide +kernel
theorem at255_1137 : jm_at 255 1137 = some (.iconst 4) := by decide +kernel
theorem at255_1138 : jm_at 255 1138 = some (.iadd) := by decide +kernel
theorem at255_1139 : jm_at 255 1139 = some (.iaload) := by decide +kernel
theorem at255_1140 : jm_at 255 1140 = some (.aload_n 0) := by decide +kernel
theorem at255_1141 : jm_at 255 1141 = some (.iload_n 3) := by decide +kernel
theorem at255_1142 : jm_at 255 1142 = some (.iconst 5) := by decide +kernel
theorem at255_1143 : jm_at 255 1143 = some (.iadd) := by decide +kernel
theorem at255_1144 : jm_at 255 1144 = some (.iaload) := by decide +kernel
theorem at255_1145 : jm_at 255 1145 = some (.invokevirtual 109) := by decide +kernel
theorem rv255i_109 : jm_rv 255 (.invokevirtual 109) = (2, 244, 0, 0) := by decide +kernel
theorem u255_1118 {L : Nat} {xs : Nat → Int32} {H : jm_H} {Q : Option Value → jm_H → Prop} {r1 r2 : Nat} {x3 : Int32} {q0 : Int64} (h0 : ¬ ((x3 + (1 : Int32)) < 0 ∨ L ≤ Int32.toNatClampNeg (x3 + (1 : Int32)))) (h1 : ¬ ((x3 + (2 : Int32)) < 0 ∨ L ≤ Int32.toNatClampNeg (x3 + (2 : Int32)))) (h2 : ¬ ((x3 + (3 : Int32)) < 0 ∨ L ≤ Int32.toNatClampNeg (x3 + (3 : Int32)))) (h3 : ¬ ((x3 + (4 : Int32)) < 0 ∨ L ≤ Int32.toNatClampNeg (x3 + (4 : Int32)))) (h4 : ¬ ((x3 + (5 : Int32)) < 0 ∨ L ≤ Int32.toNatClampNeg (x3 + (5 : Int32)))) (h5 : jm_tg H r2 = 13) : jm_w (some (L, xs)) 49 255 1118 [.ref 1, .ref r1, .ref r2, .int x3] [.long q0] H Q = jm_c (some (L, xs)) 244 [.ref r2, .int (xs (Int32.toNatClampNeg (x3 + (1 : Int32)))), .int (xs (Int32.toNatClampNeg (x3 + (2 : Int32)))), .int (xs (Int32.toNatClampNeg (x3 + (3 : Int32)))), .int (xs (Int32.toNatClampNeg (x3 + (4 : Int32)))), .int (xs (Int32.toNatClampNeg (x3 + (5 : Int32))))] H (fun v G => jm_w (some (L, xs)) 49 255 1148 [.ref 1, .ref r1, .ref r2, .int x3] (v.toList ++ []) G Q) := (js0 at255_1118 rfl rfl rfl).trans ((js1 at255_1119 rfl rfl rfl).trans ((js1 at255_1120 rfl rfl rfl).trans ((js1 at255_1121 rfl rfl rfl).trans ((jsci at255_1122 rfl rfl).trans ((js0 at255_1123 rfl rfl rfl).trans ((jssal (H := H) at255_1124 h0 rfl).trans ((js1 at255_1125 rfl rfl rfl).trans ((js1 at255_1126 rfl rfl rfl).trans ((jsci at255_1127 rfl rfl).trans ((js0 at255_1128 rfl rfl rfl).trans ((jssal (H := H) at255_1129 h1 rfl).trans ((js1 at255_1130 rfl rfl rfl).trans ((js1 at255_1131 rfl rfl rfl).trans ((jsci at255_1132 rfl rfl).trans ((js0 at255_1133 rfl rfl rfl).trans ((jssal (H := H) at255_1134 h2 rfl).trans ((js1 at255_1135 rfl rfl rfl).trans ((js1 at255_1136 rfl rfl rfl).trans ((jsci at255_1137 rfl rfl).trans ((js0 at255_1138 rfl rfl rfl).trans ((jssal (H := H) at255_1139 h3 rfl).trans ((js1 at255_1140 rfl rfl rfl).trans ((js1 at255_1141 rfl rfl rfl).trans ((jsci at255_1142 rfl rfl).trans ((js0 at255_1143 rfl rfl rfl).trans ((jssal (H := H) at255_1144 h4 rfl).trans (jscall (H := H) (as := [.ref r2, .int (xs (Int32.toNatClampNeg (x3 + (1 : Int32)))), .int (xs (Int32.toNatClampNeg (x3 + (2 : Int32)))), .int (xs (Int32.toNatClampNeg (x3 + (3 : Int32)))), .int (xs (Int32.toNatClampNeg (x3 + (4 : Int32)))), .int (xs (Int32.toNatClampNeg (x3 + (5 : Int32))))]) (q := []) at255_1145 rfl rv255i_109 (jscutV rfl rfl rfl (Nat.le_of_ble_eq_true rfl) rfl h5) rfl (Nat.le_of_ble_eq_true rfl) rfl rfl)))))))))))))))))))))))))))
theorem at255_1148 : jm_at 255 1148 = some (.pop2) := by decide +kernel
theorem at255_1149 : jm_at 255 1149 = some (.goto 181) := by decide +kernel
theorem u255_1148 {L : Nat} {xs : Nat → Int32} {H : jm_H} {Q : Option Value → jm_H → Prop} {r1 r2 : Nat} {x3 : Int32} {q0 : Int64} : jm_w (some (L, xs)) 49 255 1148 [.ref 1, .ref r1, .ref r2, .int x3] [.long q0] H Q = jm_w (some (L, xs)) 49 255 1330 [.ref 1, .ref r1, .ref r2, .int x3] [] H Q := (js0 at255_1148 rfl rfl rfl).trans (js2 at255_1149 rfl rfl)
theorem at255_1152 : jm_at 255 1152 = some (.aload_n 1) := by decide +kernel
theorem at255_1153 : jm_at 255 1153 = some (.aload_n 0) := by decide +kernel
theorem at255_1154 : jm_at 255 1154 = some (.iload_n 3) := by decide +kernel
theorem at255_1155 : jm_at 255 1155 = some (.iconst 1) := by decide +kernel
theorem at255_1156 : jm_at 255 1156 = some (.iadd) := by decide +kernel
theorem at255_1157 : jm_at 255 1157 = some (.iaload) := by decide +kernel
theorem at255_1158 : jm_at 255 1158 = some (.aload_n 0) := by decide +kernel
theorem at255_1159 : jm_at 255 1159 = some (.iload_n 3) := by decide +kernel
theorem at255_1160 : jm_at 255 1160 = some (.iconst 2) := by decide +kernel
theorem at255_1161 : jm_at 255 1161 = some (.iadd) := by decide +kernel
theorem at255_1162 : jm_at 255 1162 = some (.iaload) := by decide +kernel
theorem at255_1163 : jm_at 255 1163 = some (.invokevirtual 110) := by decide +kernel
theorem rv255i_110 : jm_rv 255 (.invokevirtual 110) = (2, 147, 0, 0) := by decide +kernel
theorem u255_1152 {L : Nat} {xs : Nat → Int32} {H : jm_H} {Q : Option Value → jm_H → Prop} {r1 r2 : Nat} {x3 : Int32} (h0 : ¬ ((x3 + (1 : Int32)) < 0 ∨ L ≤ Int32.toNatClampNeg (x3 + (1 : Int32)))) (h1 : ¬ ((x3 + (2 : Int32)) < 0 ∨ L ≤ Int32.toNatClampNeg (x3 + (2 : Int32)))) (h2 : jm_tg H r1 = 12) : jm_w (some (L, xs)) 49 255 1152 [.ref 1, .ref r1, .ref r2, .int x3] [] H Q = jm_c (some (L, xs)) 147 [.ref r1, .int (xs (Int32.toNatClampNeg (x3 + (1 : Int32)))), .int (xs (Int32.toNatClampNeg (x3 + (2 : Int32))))] H (fun v G => jm_w (some (L, xs)) 49 255 1166 [.ref 1, .ref r1, .ref r2, .int x3] (v.toList ++ []) G Q) := (js1 at255_1152 rfl rfl rfl).trans ((js1 at255_1153 rfl rfl rfl).trans ((js1 at255_1154 rfl rfl rfl).trans ((jsci at255_1155 rfl rfl).trans ((js0 at255_1156 rfl rfl rfl).trans ((jssal (H := H) at255_1157 h0 rfl).trans ((js1 at255_1158 rfl rfl rfl).trans ((js1 at255_1159 rfl rfl rfl).trans ((jsci at255_1160 rfl rfl).trans ((js0 at255_1161 rfl rfl rfl).trans ((jssal (H := H) at255_1162 h1 rfl).trans (jscall (H := H) (as := [.ref r1, .int (xs (Int32.toNatClampNeg (x3 + (1 : Int32)))), .int (xs (Int32.toNatClampNeg (x3 + (2 : Int32))))]) (q := []) at255_1163 rfl rv255i_110 (jscutV rfl rfl rfl (Nat.le_of_ble_eq_true rfl) rfl h2) rfl (Nat.le_of_ble_eq_true rfl) rfl rfl)))))))))))
theorem at255_1166 : jm_at 255 1166 = some (.pop) := by decide +kernel
theorem at255_1167 : jm_at 255 1167 = some (.aload_n 2) := by decide +kernel
theorem at255_1168 : jm_at 255 1168 = some (.aload_n 0) := by decide +kernel
theorem at255_1169 : jm_at 255 1169 = some (.iload_n 3) := by decide +kernel
theorem at255_1170 : jm_at 255 1170 = some (.iconst 1) := by decide +kernel
theorem at255_1171 : jm_at 255 1171 = some (.iadd) := by decide +kernel
theorem at255_1172 : jm_at 255 1172 = some (.iaload) := by decide +kernel
theorem at255_1173 : jm_at 255 1173 = some (.aload_n 0) := by decide +kernel
theorem at255_1174 : jm_at 255 1174 = some (.iload_n 3) := by decide +kernel
theorem at255_1175 : jm_at 255 1175 = some (.iconst 2) := by decide +kernel
theorem at255_1176 : jm_at 255 1176 = some (.iadd) := by decide +kernel
theorem at255_1177 : jm_at 255 1177 = some (.iaload) := by decide +kernel
theorem at255_1178 : jm_at 255 1178 = some (.invokevirtual 114) := by decide +kernel
theorem rv255i_114 : jm_rv 255 (.invokevirtual 114) = (2, 247, 0, 0) := by decide +kernel
theorem u255_1166 {L : Nat} {xs : Nat → Int32} {H : jm_H} {Q : Option Value → jm_H → Prop} {r1 r2 : Nat} {x3 p0 : Int32} (h0 : ¬ ((x3 + (1 : Int32)) < 0 ∨ L ≤ Int32.toNatClampNeg (x3 + (1 : Int32)))) (h1 : ¬ ((x3 + (2 : Int32)) < 0 ∨ L ≤ Int32.toNatClampNeg (x3 + (2 : Int32)))) (h2 : jm_tg H r2 = 13) : jm_w (some (L, xs)) 49 255 1166 [.ref 1, .ref r1, .ref r2, .int x3] [.int p0] H Q = jm_c (some (L, xs)) 247 [.ref r2, .int (xs (Int32.toNatClampNeg (x3 + (1 : Int32)))), .int (xs (Int32.toNatClampNeg (x3 + (2 : Int32))))] H (fun v G => jm_w (some (L, xs)) 49 255 1181 [.ref 1, .ref r1, .ref r2, .int x3] (v.toList ++ []) G Q) := (js0 at255_1166 rfl rfl rfl).trans ((js1 at255_1167 rfl rfl rfl).trans ((js1 at255_1168 rfl rfl rfl).trans ((js1 at255_1169 rfl rfl rfl).trans ((jsci at255_1170 rfl rfl).trans ((js0 at255_1171 rfl rfl rfl).trans ((jssal (H := H) at255_1172 h0 rfl).trans ((js1 at255_1173 rfl rfl rfl).trans ((js1 at255_1174 rfl rfl rfl).trans ((jsci at255_1175 rfl rfl).trans ((js0 at255_1176 rfl rfl rfl).trans ((jssal (H := H) at255_1177 h1 rfl).trans (jscall (H := H) (as := [.ref r2, .int (xs (Int32.toNatClampNeg (x3 + (1 : Int32)))), .int (xs (Int32.toNatClampNeg (x3 + (2 : Int32))))]) (q := []) at255_1178 rfl rv255i_114 (jscutV rfl rfl rfl (Nat.le_of_ble_eq_true rfl) rfl h2) rfl (Nat.le_of_ble_eq_true rfl) rfl rfl))))))))))))
theorem at255_1181 : jm_at 255 1181 = some (.pop) := by decide +kernel
theorem at255_1182 : jm_at 255 1182 = some (.goto 148) := by decide +kernel
theorem u255_1181 {L : Nat} {xs : Nat → Int32} {H : jm_H} {Q : Option Value → jm_H → Prop} {r1 r2 : Nat} {x3 p0 : Int32} : jm_w (some (L, xs)) 49 255 1181 [.ref 1, .ref r1, .ref r2, .int x3] [.int p0] H Q = jm_w (some (L, xs)) 49 255 1330 [.ref 1, .ref r1, .ref r2, .int x3] [] H Q := (js0 at255_1181 rfl rfl rfl).trans (js2 at255_1182 rfl rfl)
theorem at255_1185 : jm_at 255 1185 = some (.aload_n 1) := by decide +kernel
theorem at255_1186 : jm_at 255 1186 = some (.aload_n 0) := by decide +kernel
theorem at255_1187 : jm_at 255 1187 = some (.iload_n 3) := by decide +kernel
theorem at255_1188 : jm_at 255 1188 = some (.iconst 1) := by decide +kernel
theorem at255_1189 : jm_at 255 1189 = some (.iadd) := by decide +kernel
theorem at255_1190 : jm_at 255 1190 = some (.iaload) := by decide +kernel
theorem at255_1191 : jm_at 255 1191 = some (.aload_n 0) := by decide +kernel
theorem at255_1192 : jm_at 255 1192 = some (.iload_n 3) := by decide +kernel
theorem at255_1193 : jm_at 255 1193 = some (.iconst 2) := by decide +kernel
theorem at255_1194 : jm_at 255 1194 = some (.iadd) := by decide +kernel
theorem at255_1195 : jm_at 255 1195 = some (.iaload) := by decide +kernel
theorem at255_1196 : jm_at 255 1196 = some (.aload_n 0) := by decide +kernel
theorem at255_1197 : jm_at 255 1197 = some (.iload_n 3) := by decide +kernel
theorem at255_1198 : jm_at 255 1198 = some (.iconst 3) := by decide +kernel
theorem at255_1199 : jm_at 255 1199 = some (.iadd) := by decide +kernel
theorem at255_1200 : jm_at 255 1200 = some (.iaload) := by decide +kernel
theorem at255_1201 : jm_at 255 1201 = some (.invokevirtual 115) := by decide +kernel
theorem rv255i_115 : jm_rv 255 (.invokevirtual 115) = (2, 143, 0, 0) := by decide +kernel
theorem u255_1185 {L : Nat} {xs : Nat → Int32} {H : jm_H} {Q : Option Value → jm_H → Prop} {r1 r2 : Nat} {x3 : Int32} (h0 : ¬ ((x3 + (1 : Int32)) < 0 ∨ L ≤ Int32.toNatClampNeg (x3 + (1 : Int32)))) (h1 : ¬ ((x3 + (2 : Int32)) < 0 ∨ L ≤ Int32.toNatClampNeg (x3 + (2 : Int32)))) (h2 : ¬ ((x3 + (3 : Int32)) < 0 ∨ L ≤ Int32.toNatClampNeg (x3 + (3 : Int32)))) (h3 : jm_tg H r1 = 12) : jm_w (some (L, xs)) 49 255 1185 [.ref 1, .ref r1, .ref r2, .int x3] [] H Q = jm_c (some (L, xs)) 143 [.ref r1, .int (xs (Int32.toNatClampNeg (x3 + (1 : Int32)))), .int (xs (Int32.toNatClampNeg (x3 + (2 : Int32)))), .int (xs (Int32.toNatClampNeg (x3 + (3 : Int32))))] H (fun v G => jm_w (some (L, xs)) 49 255 1204 [.ref 1, .ref r1, .ref r2, .int x3] (v.toList ++ []) G Q) := (js1 at255_1185 rfl rfl rfl).trans ((js1 at255_1186 rfl rfl rfl).trans ((js1 at255_1187 rfl rfl rfl).trans ((jsci at255_1188 rfl rfl).trans ((js0 at255_1189 rfl rfl rfl).trans ((jssal (H := H) at255_1190 h0 rfl).trans ((js1 at255_1191 rfl rfl rfl).trans ((js1 at255_1192 rfl rfl rfl).trans ((jsci at255_1193 rfl rfl).trans ((js0 at255_1194 rfl rfl rfl).trans ((jssal (H := H) at255_1195 h1 rfl).trans ((js1 at255_1196 rfl rfl rfl).trans ((js1 at255_1197 rfl rfl rfl).trans ((jsci at255_1198 rfl rfl).trans ((js0 at255_1199 rfl rfl rfl).trans ((jssal (H := H) at255_1200 h2 rfl).trans (jscall (H := H) (as := [.ref r1, .int (xs (Int32.toNatClampNeg (x3 + (1 : Int32)))), .int (xs (Int32.toNatClampNeg (x3 + (2 : Int32)))), .int (xs (Int32.toNatClampNeg (x3 + (3 : Int32))))]) (q := []) at255_1201 rfl rv255i_115 (jscutV rfl rfl rfl (Nat.le_of_ble_eq_true rfl) rfl h3) rfl (Nat.le_of_ble_eq_true rfl) rfl rfl))))))))))))))))
theorem at255_1204 : jm_at 255 1204 = some (.pop) := by decide +kernel
theorem at255_1205 : jm_at 255 1205 = some (.aload_n 2) := by decide +kernel
theorem at255_1206 : jm_at 255 1206 = some (.aload_n 0) := by decide +kernel
theorem at255_1207 : jm_at 255 1207 = some (.iload_n 3) := by decide +kernel
theorem at255_1208 : jm_at 255 1208 = some (.iconst 1) := by decide +kernel
theorem at255_1209 : jm_at 255 1209 = some (.iadd) := by decide +kernel
theorem at255_1210 : jm_at 255 1210 = some (.iaload) := by decide +kernel
theorem at255_1211 : jm_at 255 1211 = some (.aload_n 0) := by decide +kernel
theorem at255_1212 : jm_at 255 1212 = some (.iload_n 3) := by decide +kernel
theorem at255_1213 : jm_at 255 1213 = some (.iconst 2) := by decide +kernel
theorem at255_1214 : jm_at 255 1214 = some (.iadd) := by decide +kernel
theorem at255_1215 : jm_at 255 1215 = some (.iaload) := by decide +kernel
theorem at255_1216 : jm_at 255 1216 = some (.aload_n 0) := by decide +kernel
theorem at255_1217 : jm_at 255 1217 = some (.iload_n 3) := by decide +kernel
theorem at255_1218 : jm_at 255 1218 = some (.iconst 3) := by decide +kernel
theorem at255_1219 : jm_at 255 1219 = some (.iadd) := by decide +kernel
theorem at255_1220 : jm_at 255 1220 = some (.iaload) := by decide +kernel
theorem at255_1221 : jm_at 255 1221 = some (.invokevirtual 118) := by decide +kernel
theorem rv255i_118 : jm_rv 255 (.invokevirtual 118) = (2, 248, 0, 0) := by decide +kernel
theorem u255_1204 {L : Nat} {xs : Nat → Int32} {H : jm_H} {Q : Option Value → jm_H → Prop} {r1 r2 : Nat} {x3 p0 : Int32} (h0 : ¬ ((x3 + (1 : Int32)) < 0 ∨ L ≤ Int32.toNatClampNeg (x3 + (1 : Int32)))) (h1 : ¬ ((x3 + (2 : Int32)) < 0 ∨ L ≤ Int32.toNatClampNeg (x3 + (2 : Int32)))) (h2 : ¬ ((x3 + (3 : Int32)) < 0 ∨ L ≤ Int32.toNatClampNeg (x3 + (3 : Int32)))) (h3 : jm_tg H r2 = 13) : jm_w (some (L, xs)) 49 255 1204 [.ref 1, .ref r1, .ref r2, .int x3] [.int p0] H Q = jm_c (some (L, xs)) 248 [.ref r2, .int (xs (Int32.toNatClampNeg (x3 + (1 : Int32)))), .int (xs (Int32.toNatClampNeg (x3 + (2 : Int32)))), .int (xs (Int32.toNatClampNeg (x3 + (3 : Int32))))] H (fun v G => jm_w (some (L, xs)) 49 255 1224 [.ref 1, .ref r1, .ref r2, .int x3] (v.toList ++ []) G Q) := (js0 at255_1204 rfl rfl rfl).trans ((js1 at255_1205 rfl rfl rfl).trans ((js1 at255_1206 rfl rfl rfl).trans ((js1 at255_1207 rfl rfl rfl).trans ((jsci at255_1208 rfl rfl).trans ((js0 at255_1209 rfl rfl rfl).trans ((jssal (H := H) at255_1210 h0 rfl).trans ((js1 at255_1211 rfl rfl rfl).trans ((js1 at255_1212 rfl rfl rfl).trans ((jsci at255_1213 rfl rfl).trans ((js0 at255_1214 rfl rfl rfl).trans ((jssal (H := H) at255_1215 h1 rfl).trans ((js1 at255_1216 rfl rfl rfl).trans ((js1 at255_1217 rfl rfl rfl).trans ((jsci at255_1218 rfl rfl).trans ((js0 at255_1219 rfl rfl rfl).trans ((jssal (H := H) at255_1220 h2 rfl).trans (jscall (H := H) (as := [.ref r2, .int (xs (Int32.toNatClampNeg (x3 + (1 : Int32)))), .int (xs (Int32.toNatClampNeg (x3 + (2 : Int32)))), .int (xs (Int32.toNatClampNeg (x3 + (3 : Int32))))]) (q := []) at255_1221 rfl rv255i_118 (jscutV rfl rfl rfl (Nat.le_of_ble_eq_true rfl) rfl h3) rfl (Nat.le_of_ble_eq_true rfl) rfl rfl)))))))))))))))))
theorem at255_1224 : jm_at 255 1224 = some (.pop) := by decide +kernel
theorem at255_1225 : jm_at 255 1225 = some (.goto 105) := by decide +kernel
theorem u255_1224 {L : Nat} {xs : Nat → Int32} {H : jm_H} {Q : Option Value → jm_H → Prop} {r1 r2 : Nat} {x3 p0 : Int32} : jm_w (some (L, xs)) 49 255 1224 [.ref 1, .ref r1, .ref r2, .int x3] [.int p0] H Q = jm_w (some (L, xs)) 49 255 1330 [.ref 1, .ref r1, .ref r2, .int x3] [] H Q := (js0 at255_1224 rfl rfl rfl).trans (js2 at255_1225 rfl rfl)
theorem at255_1228 : jm_at 255 1228 = some (.aload_n 1) := by decide +kernel
theorem at255_1229 : jm_at 255 1229 = some (.aload_n 0) := by decide +kernel
theorem at255_1230 : jm_at 255 1230 = some (.iload_n 3) := by decide +kernel
theorem at255_1231 : jm_at 255 1231 = some (.iconst 1) := by decide +kernel
theorem at255_1232 : jm_at 255 1232 = some (.iadd) := by decide +kernel
theorem at255_1233 : jm_at 255 1233 = some (.iaload) := by decide +kernel
theorem at255_1234 : jm_at 255 1234 = some (.aload_n 0) := by decide +kernel
theorem at255_1235 : jm_at 255 1235 = some (.iload_n 3) := by decide +kernel
theorem at255_1236 : jm_at 255 1236 = some (.iconst 2) := by decide +kernel
theorem at255_1237 : jm_at 255 1237 = some (.iadd) := by decide +kernel
theorem at255_1238 : jm_at 255 1238 = some (.iaload) := by decide +kernel
theorem at255_1239 : jm_at 255 1239 = some (.invokevirtual 119) := by decide +kernel
theorem rv255i_119 : jm_rv 255 (.invokevirtual 119) = (2, 148, 0, 0) := by decide +kernel
theorem u255_1228 {L : Nat} {xs : Nat → Int32} {H : jm_H} {Q : Option Value → jm_H → Prop} {r1 r2 : Nat} {x3 : Int32} (h0 : ¬ ((x3 + (1 : Int32)) < 0 ∨ L ≤ Int32.toNatClampNeg (x3 + (1 : Int32)))) (h1 : ¬ ((x3 + (2 : Int32)) < 0 ∨ L ≤ Int32.toNatClampNeg (x3 + (2 : Int32)))) (h2 : jm_tg H r1 = 12) : jm_w (some (L, xs)) 49 255 1228 [.ref 1, .ref r1, .ref r2, .int x3] [] H Q = jm_c (some (L, xs)) 148 [.ref r1, .int (xs (Int32.toNatClampNeg (x3 + (1 : Int32)))), .int (xs (Int32.toNatClampNeg (x3 + (2 : Int32))))] H (fun v G => jm_w (some (L, xs)) 49 255 1242 [.ref 1, .ref r1, .ref r2, .int x3] (v.toList ++ []) G Q) := (js1 at255_1228 rfl rfl rfl).trans ((js1 at255_1229 rfl rfl rfl).trans ((js1 at255_1230 rfl rfl rfl).trans ((jsci at255_1231 rfl rfl).trans ((js0 at255_1232 rfl rfl rfl).trans ((jssal (H := H) at255_1233 h0 rfl).trans ((js1 at255_1234 rfl rfl rfl).trans ((js1 at255_1235 rfl rfl rfl).trans ((jsci at255_1236 rfl rfl).trans ((js0 at255_1237 rfl rfl rfl).trans ((jssal (H := H) at255_1238 h1 rfl).trans (jscall (H := H) (as := [.ref r1, .int (xs (Int32.toNatClampNeg (x3 + (1 : Int32)))), .int (xs (Int32.toNatClampNeg (x3 + (2 : Int32))))]) (q := []) at255_1239 rfl rv255i_119 (jscutV rfl rfl rfl (Nat.le_of_ble_eq_true rfl) rfl h2) rfl (Nat.le_of_ble_eq_true rfl) rfl rfl)))))))))))
theorem at255_1242 : jm_at 255 1242 = some (.pop) := by decide +kernel
theorem at255_1243 : jm_at 255 1243 = some (.aload_n 2) := by decide +kernel
theorem at255_1244 : jm_at 255 1244 = some (.aload_n 0) := by decide +kernel
theorem at255_1245 : jm_at 255 1245 = some (.iload_n 3) := by decide +kernel
theorem at255_1246 : jm_at 255 1246 = some (.iconst 1) := by decide +kernel
theorem at255_1247 : jm_at 255 1247 = some (.iadd) := by decide +kernel
theorem at255_1248 : jm_at 255 1248 = some (.iaload) := by decide +kernel
theorem at255_1249 : jm_at 255 1249 = some (.aload_n 0) := by decide +kernel
theorem at255_1250 : jm_at 255 1250 = some (.iload_n 3) := by decide +kernel
theorem at255_1251 : jm_at 255 1251 = some (.iconst 2) := by decide +kernel
theorem at255_1252 : jm_at 255 1252 = some (.iadd) := by decide +kernel
theorem at255_1253 : jm_at 255 1253 = some (.iaload) := by decide +kernel
theorem at255_1254 : jm_at 255 1254 = some (.invokevirtual 122) := by decide +kernel
theorem rv255i_122 : jm_rv 255 (.invokevirtual 122) = (2, 249, 0, 0) := by decide +kernel
theorem u255_1242 {L : Nat} {xs : Nat → Int32} {H : jm_H} {Q : Option Value → jm_H → Prop} {r1 r2 : Nat} {x3 p0 : Int32} (h0 : ¬ ((x3 + (1 : Int32)) < 0 ∨ L ≤ Int32.toNatClampNeg (x3 + (1 : Int32)))) (h1 : ¬ ((x3 + (2 : Int32)) < 0 ∨ L ≤ Int32.toNatClampNeg (x3 + (2 : Int32)))) (h2 : jm_tg H r2 = 13) : jm_w (some (L, xs)) 49 255 1242 [.ref 1, .ref r1, .ref r2, .int x3] [.int p0] H Q = jm_c (some (L, xs)) 249 [.ref r2, .int (xs (Int32.toNatClampNeg (x3 + (1 : Int32)))), .int (xs (Int32.toNatClampNeg (x3 + (2 : Int32))))] H (fun v G => jm_w (some (L, xs)) 49 255 1257 [.ref 1, .ref r1, .ref r2, .int x3] (v.toList ++ []) G Q) := (js0 at255_1242 rfl rfl rfl).trans ((js1 at255_1243 rfl rfl rfl).trans ((js1 at255_1244 rfl rfl rfl).trans ((js1 at255_1245 rfl rfl rfl).trans ((jsci at255_1246 rfl rfl).trans ((js0 at255_1247 rfl rfl rfl).trans ((jssal (H := H) at255_1248 h0 rfl).trans ((js1 at255_1249 rfl rfl rfl).trans ((js1 at255_1250 rfl rfl rfl).trans ((jsci at255_1251 rfl rfl).trans ((js0 at255_1252 rfl rfl rfl).trans ((jssal (H := H) at255_1253 h1 rfl).trans (jscall (H := H) (as := [.ref r2, .int (xs (Int32.toNatClampNeg (x3 + (1 : Int32)))), .int (xs (Int32.toNatClampNeg (x3 + (2 : Int32))))]) (q := []) at255_1254 rfl rv255i_122 (jscutV rfl rfl rfl (Nat.le_of_ble_eq_true rfl) rfl h2) rfl (Nat.le_of_ble_eq_true rfl) rfl rfl))))))))))))
theorem at255_1257 : jm_at 255 1257 = some (.pop) := by decide +kernel
theorem at255_1258 : jm_at 255 1258 = some (.goto 72) := by decide +kernel
theorem u255_1257 {L : Nat} {xs : Nat → Int32} {H : jm_H} {Q : Option Value → jm_H → Prop} {r1 r2 : Nat} {x3 p0 : Int32} : jm_w (some (L, xs)) 49 255 1257 [.ref 1, .ref r1, .ref r2, .int x3] [.int p0] H Q = jm_w (some (L, xs)) 49 255 1330 [.ref 1, .ref r1, .ref r2, .int x3] [] H Q := (js0 at255_1257 rfl rfl rfl).trans (js2 at255_1258 rfl rfl)
theorem at255_1261 : jm_at 255 1261 = some (.aload_n 1) := by decide +kernel
theorem at255_1262 : jm_at 255 1262 = some (.aload_n 0) := by decide +kernel
theorem at255_1263 : jm_at 255 1263 = some (.iload_n 3) := by decide +kernel
theorem at255_1264 : jm_at 255 1264 = some (.iconst 1) := by decide +kernel
theorem at255_1265 : jm_at 255 1265 = some (.iadd) := by decide +kernel
theorem at255_1266 : jm_at 255 1266 = some (.iaload) := by decide +kernel
theorem at255_1267 : jm_at 255 1267 = some (.invokevirtual 123) := by decide +kernel
theorem rv255i_123 : jm_rv 255 (.invokevirtual 123) = (2, 104, 0, 0) := by decide +kernel
theorem u255_1261 {L : Nat} {xs : Nat → Int32} {H : jm_H} {Q : Option Value → jm_H → Prop} {r1 r2 : Nat} {x3 : Int32} (h0 : ¬ ((x3 + (1 : Int32)) < 0 ∨ L ≤ Int32.toNatClampNeg (x3 + (1 : Int32)))) (h1 : jm_tg H r1 = 12) : jm_w (some (L, xs)) 49 255 1261 [.ref 1, .ref r1, .ref r2, .int x3] [] H Q = jm_c (some (L, xs)) 104 [.ref r1, .int (xs (Int32.toNatClampNeg (x3 + (1 : Int32))))] H (fun v G => jm_w (some (L, xs)) 49 255 1270 [.ref 1, .ref r1, .ref r2, .int x3] (v.toList ++ []) G Q) := (js1 at255_1261 rfl rfl rfl).trans ((js1 at255_1262 rfl rfl rfl).trans ((js1 at255_1263 rfl rfl rfl).trans ((jsci at255_1264 rfl rfl).trans ((js0 at255_1265 rfl rfl rfl).trans ((jssal (H := H) at255_1266 h0 rfl).trans (jscall (H := H) (as := [.ref r1, .int (xs (Int32.toNatClampNeg (x3 + (1 : Int32))))]) (q := []) at255_1267 rfl rv255i_123 (jscutV rfl rfl rfl (Nat.le_of_ble_eq_true rfl) rfl h1) rfl (Nat.le_of_ble_eq_true rfl) rfl rfl))))))
theorem at255_1270 : jm_at 255 1270 = some (.aload_n 2) := by decide +kernel
theorem at255_1271 : jm_at 255 1271 = some (.aload_n 0) := by decide +kernel
theorem at255_1272 : jm_at 255 1272 = some (.iload_n 3) := by decide +kernel
theorem at255_1273 : jm_at 255 1273 = some (.iconst 1) := by decide +kernel
theorem at255_1274 : jm_at 255 1274 = some (.iadd) := by decide +kernel
theorem at255_1275 : jm_at 255 1275 = some (.iaload) := by decide +kernel
theorem at255_1276 : jm_at 255 1276 = some (.invokevirtual 127) := by decide +kernel
theorem rv255i_127 : jm_rv 255 (.invokevirtual 127) = (2, 214, 0, 0) := by decide +kernel
theorem u255_1270 {L : Nat} {xs : Nat → Int32} {H : jm_H} {Q : Option Value → jm_H → Prop} {r1 r2 : Nat} {x3 p0 : Int32} (h0 : ¬ ((x3 + (1 : Int32)) < 0 ∨ L ≤ Int32.toNatClampNeg (x3 + (1 : Int32)))) (h1 : jm_tg H r2 = 13) : jm_w (some (L, xs)) 49 255 1270 [.ref 1, .ref r1, .ref r2, .int x3] [.int p0] H Q = jm_c (some (L, xs)) 214 [.ref r2, .int (xs (Int32.toNatClampNeg (x3 + (1 : Int32))))] H (fun v G => jm_w (some (L, xs)) 49 255 1279 [.ref 1, .ref r1, .ref r2, .int x3] (v.toList ++ [.int p0]) G Q) := (js1 at255_1270 rfl rfl rfl).trans ((js1 at255_1271 rfl rfl rfl).trans ((js1 at255_1272 rfl rfl rfl).trans ((jsci at255_1273 rfl rfl).trans ((js0 at255_1274 rfl rfl rfl).trans ((jssal (H := H) at255_1275 h0 rfl).trans (jscall (H := H) (as := [.ref r2, .int (xs (Int32.toNatClampNeg (x3 + (1 : Int32))))]) (q := [.int p0]) at255_1276 rfl rv255i_127 (jscutV rfl rfl rfl (Nat.le_of_ble_eq_true rfl) rfl h1) rfl (Nat.le_of_ble_eq_true rfl) rfl rfl))))))
theorem at255_1279 : jm_at 255 1279 = some (.if_icmp .eq 51) := by decide +kernel
theorem u255_1279 {L : Nat} {xs : Nat → Int32} {H : jm_H} {Q : Option Value → jm_H → Prop} {r1 r2 : Nat} {x3 p0 p1 : Int32} : jm_w (some (L, xs)) 49 255 1279 [.ref 1, .ref r1, .ref r2, .int x3] [.int p1, .int p0] H Q = if p0 = p1 then jm_w (some (L, xs)) 49 255 1330 [.ref 1, .ref r1, .ref r2, .int x3] [] H Q else jm_w (some (L, xs)) 49 255 1282 [.ref 1, .ref r1, .ref r2, .int x3] [] H Q := jsif (P := p0 = p1) at255_1279 rfl rfl
theorem at255_1282 : jm_at 255 1282 = some (.iconst 0) := by decide +kernel
theorem at255_1283 : jm_at 255 1283 = some (.ireturn) := by decide +kernel
theorem u255_1282 {L : Nat} {xs : Nat → Int32} {H : jm_H} {Q : Option Value → jm_H → Prop} {r1 r2 : Nat} {x3 : Int32} : jm_w (some (L, xs)) 49 255 1282 [.ref 1, .ref r1, .ref r2, .int x3] [] H Q = Q (some (.int (0 : Int32))) H := (jsci at255_1282 rfl rfl).trans (jsret_z at255_1283 rfl (by decide))
theorem at255_1284 : jm_at 255 1284 = some (.aload_n 1) := by decide +kernel
theorem at255_1285 : jm_at 255 1285 = some (.aload_n 0) := by decide +kernel
theorem at255_1286 : jm_at 255 1286 = some (.iload_n 3) := by decide +kernel
theorem at255_1287 : jm_at 255 1287 = some (.iconst 1) := by decide +kernel
theorem at255_1288 : jm_at 255 1288 = some (.iadd) := by decide +kernel
theorem at255_1289 : jm_at 255 1289 = some (.iaload) := by decide +kernel
theorem at255_1290 : jm_at 255 1290 = some (.invokevirtual 128) := by decide +kernel
theorem rv255i_128 : jm_rv 255 (.invokevirtual 128) = (2, 106, 0, 0) := by decide +kernel
theorem u255_1284 {L : Nat} {xs : Nat → Int32} {H : jm_H} {Q : Option Value → jm_H → Prop} {r1 r2 : Nat} {x3 : Int32} (h0 : ¬ ((x3 + (1 : Int32)) < 0 ∨ L ≤ Int32.toNatClampNeg (x3 + (1 : Int32)))) (h1 : jm_tg H r1 = 12) : jm_w (some (L, xs)) 49 255 1284 [.ref 1, .ref r1, .ref r2, .int x3] [] H Q = jm_c (some (L, xs)) 106 [.ref r1, .int (xs (Int32.toNatClampNeg (x3 + (1 : Int32))))] H (fun v G => jm_w (some (L, xs)) 49 255 1293 [.ref 1, .ref r1, .ref r2, .int x3] (v.toList ++ []) G Q) := (js1 at255_1284 rfl rfl rfl).trans ((js1 at255_1285 rfl rfl rfl).trans ((js1 at255_1286 rfl rfl rfl).trans ((jsci at255_1287 rfl rfl).trans ((js0 at255_1288 rfl rfl rfl).trans ((jssal (H := H) at255_1289 h0 rfl).trans (jscall (H := H) (as := [.ref r1, .int (xs (Int32.toNatClampNeg (x3 + (1 : Int32))))]) (q := []) at255_1290 rfl rv255i_128 (jscutV rfl rfl rfl (Nat.le_of_ble_eq_true rfl) rfl h1) rfl (Nat.le_of_ble_eq_true rfl) rfl rfl))))))
theorem at255_1293 : jm_at 255 1293 = some (.pop) := by decide +kernel
theorem at255_1294 : jm_at 255 1294 = some (.aload_n 2) := by decide +kernel
theorem at255_1295 : jm_at 255 1295 = some (.aload_n 0) := by decide +kernel
theorem at255_1296 : jm_at 255 1296 = some (.iload_n 3) := by decide +kernel
theorem at255_1297 : jm_at 255 1297 = some (.iconst 1) := by decide +kernel
theorem at255_1298 : jm_at 255 1298 = some (.iadd) := by decide +kernel
theorem at255_1299 : jm_at 255 1299 = some (.iaload) := by decide +kernel
theorem at255_1300 : jm_at 255 1300 = some (.invokevirtual 131) := by decide +kernel
theorem rv255i_131 : jm_rv 255 (.invokevirtual 131) = (2, 215, 0, 0) := by decide +kernel
theorem u255_1293 {L : Nat} {xs : Nat → Int32} {H : jm_H} {Q : Option Value → jm_H → Prop} {r1 r2 : Nat} {x3 p0 : Int32} (h0 : ¬ ((x3 + (1 : Int32)) < 0 ∨ L ≤ Int32.toNatClampNeg (x3 + (1 : Int32)))) (h1 : jm_tg H r2 = 13) : jm_w (some (L, xs)) 49 255 1293 [.ref 1, .ref r1, .ref r2, .int x3] [.int p0] H Q = jm_c (some (L, xs)) 215 [.ref r2, .int (xs (Int32.toNatClampNeg (x3 + (1 : Int32))))] H (fun v G => jm_w (some (L, xs)) 49 255 1303 [.ref 1, .ref r1, .ref r2, .int x3] (v.toList ++ []) G Q) := (js0 at255_1293 rfl rfl rfl).trans ((js1 at255_1294 rfl rfl rfl).trans ((js1 at255_1295 rfl rfl rfl).trans ((js1 at255_1296 rfl rfl rfl).trans ((jsci at255_1297 rfl rfl).trans ((js0 at255_1298 rfl rfl rfl).trans ((jssal (H := H) at255_1299 h0 rfl).trans (jscall (H := H) (as := [.ref r2, .int (xs (Int32.toNatClampNeg (x3 + (1 : Int32))))]) (q := []) at255_1300 rfl rv255i_131 (jscutV rfl rfl rfl (Nat.le_of_ble_eq_true rfl) rfl h1) rfl (Nat.le_of_ble_eq_true rfl) rfl rfl)))))))
theorem at255_1303 : jm_at 255 1303 = some (.pop) := by decide +kernel
theorem at255_1304 : jm_at 255 1304 = some (.goto 26) := by decide +kernel
theorem u255_1303 {L : Nat} {xs : Nat → Int32} {H : jm_H} {Q : Option Value → jm_H → Prop} {r1 r2 : Nat} {x3 p0 : Int32} : jm_w (some (L, xs)) 49 255 1303 [.ref 1, .ref r1, .ref r2, .int x3] [.int p0] H Q = jm_w (some (L, xs)) 49 255 1330 [.ref 1, .ref r1, .ref r2, .int x3] [] H Q := (js0 at255_1303 rfl rfl rfl).trans (js2 at255_1304 rfl rfl)
theorem at255_1307 : jm_at 255 1307 = some (.aload_n 1) := by decide +kernel
theorem at255_1308 : jm_at 255 1308 = some (.aload_n 0) := by decide +kernel
theorem at255_1309 : jm_at 255 1309 = some (.iload_n 3) := by decide +kernel
theorem at255_1310 : jm_at 255 1310 = some (.iconst 1) := by decide +kernel
theorem at255_1311 : jm_at 255 1311 = some (.iadd) := by decide +kernel
theorem at255_1312 : jm_at 255 1312 = some (.iaload) := by decide +kernel
theorem at255_1313 : jm_at 255 1313 = some (.invokevirtual 132) := by decide +kernel
theorem rv255i_132 : jm_rv 255 (.invokevirtual 132) = (2, 149, 0, 0) := by decide +kernel
theorem u255_1307 {L : Nat} {xs : Nat → Int32} {H : jm_H} {Q : Option Value → jm_H → Prop} {r1 r2 : Nat} {x3 : Int32} (h0 : ¬ ((x3 + (1 : Int32)) < 0 ∨ L ≤ Int32.toNatClampNeg (x3 + (1 : Int32)))) (h1 : jm_tg H r1 = 12) : jm_w (some (L, xs)) 49 255 1307 [.ref 1, .ref r1, .ref r2, .int x3] [] H Q = jm_c (some (L, xs)) 149 [.ref r1, .int (xs (Int32.toNatClampNeg (x3 + (1 : Int32))))] H (fun v G => jm_w (some (L, xs)) 49 255 1316 [.ref 1, .ref r1, .ref r2, .int x3] (v.toList ++ []) G Q) := (js1 at255_1307 rfl rfl rfl).trans ((js1 at255_1308 rfl rfl rfl).trans ((js1 at255_1309 rfl rfl rfl).trans ((jsci at255_1310 rfl rfl).trans ((js0 at255_1311 rfl rfl rfl).trans ((jssal (H := H) at255_1312 h0 rfl).trans (jscall (H := H) (as := [.ref r1, .int (xs (Int32.toNatClampNeg (x3 + (1 : Int32))))]) (q := []) at255_1313 rfl rv255i_132 (jscutV rfl rfl rfl (Nat.le_of_ble_eq_true rfl) rfl h1) rfl (Nat.le_of_ble_eq_true rfl) rfl rfl))))))
theorem at255_1316 : jm_at 255 1316 = some (.pop) := by decide +kernel
theorem at255_1317 : jm_at 255 1317 = some (.aload_n 2) := by decide +kernel
theorem at255_1318 : jm_at 255 1318 = some (.aload_n 0) := by decide +kernel
theorem at255_1319 : jm_at 255 1319 = some (.iload_n 3) := by decide +kernel
theorem at255_1320 : jm_at 255 1320 = some (.iconst 1) := by decide +kernel
theorem at255_1321 : jm_at 255 1321 = some (.iadd) := by decide +kernel
theorem at255_1322 : jm_at 255 1322 = some (.iaload) := by decide +kernel
theorem at255_1323 : jm_at 255 1323 = some (.invokevirtual 135) := by decide +kernel
theorem rv255i_135 : jm_rv 255 (.invokevirtual 135) = (2, 250, 0, 0) := by decide +kernel
theorem u255_1316 {L : Nat} {xs : Nat → Int32} {H : jm_H} {Q : Option Value → jm_H → Prop} {r1 r2 : Nat} {x3 p0 : Int32} (h0 : ¬ ((x3 + (1 : Int32)) < 0 ∨ L ≤ Int32.toNatClampNeg (x3 + (1 : Int32)))) (h1 : jm_tg H r2 = 13) : jm_w (some (L, xs)) 49 255 1316 [.ref 1, .ref r1, .ref r2, .int x3] [.int p0] H Q = jm_c (some (L, xs)) 250 [.ref r2, .int (xs (Int32.toNatClampNeg (x3 + (1 : Int32))))] H (fun v G => jm_w (some (L, xs)) 49 255 1326 [.ref 1, .ref r1, .ref r2, .int x3] (v.toList ++ []) G Q) := (js0 at255_1316 rfl rfl rfl).trans ((js1 at255_1317 rfl rfl rfl).trans ((js1 at255_1318 rfl rfl rfl).trans ((js1 at255_1319 rfl rfl rfl).trans ((jsci at255_1320 rfl rfl).trans ((js0 at255_1321 rfl rfl rfl).trans ((jssal (H := H) at255_1322 h0 rfl).trans (jscall (H := H) (as := [.ref r2, .int (xs (Int32.toNatClampNeg (x3 + (1 : Int32))))]) (q := []) at255_1323 rfl rv255i_135 (jscutV rfl rfl rfl (Nat.le_of_ble_eq_true rfl) rfl h1) rfl (Nat.le_of_ble_eq_true rfl) rfl rfl)))))))
theorem at255_1326 : jm_at 255 1326 = some (.pop) := by decide +kernel
theorem at255_1327 : jm_at 255 1327 = some (.goto 3) := by decide +kernel
theorem u255_1326 {L : Nat} {xs : Nat → Int32} {H : jm_H} {Q : Option Value → jm_H → Prop} {r1 r2 : Nat} {x3 p0 : Int32} : jm_w (some (L, xs)) 49 255 1326 [.ref 1, .ref r1, .ref r2, .int x3] [.int p0] H Q = jm_w (some (L, xs)) 49 255 1330 [.ref 1, .ref r1, .ref r2, .int x3] [] H Q := (js0 at255_1326 rfl rfl rfl).trans (js2 at255_1327 rfl rfl)
theorem at255_1330 : jm_at 255 1330 = some (.iinc 3 6) := by decide +kernel
theorem at255_1333 : jm_at 255 1333 = some (.goto (-1315)) := by decide +kernel
theorem u255_1330 {L : Nat} {xs : Nat → Int32} {H : jm_H} {Q : Option Value → jm_H → Prop} {r1 r2 : Nat} {x3 : Int32} : jm_w (some (L, xs)) 49 255 1330 [.ref 1, .ref r1, .ref r2, .int x3] [] H Q = jm_w (some (L, xs)) 49 255 18 [.ref 1, .ref r1, .ref r2, .int (x3 + 6)] [] H Q := (jsinc at255_1330 rfl rfl rfl).trans (js2 at255_1333 rfl rfl)
theorem at255_1336 : jm_at 255 1336 = some (.iconst 1) := by decide +kernel
theorem at255_1337 : jm_at 255 1337 = some (.ireturn) := by decide +kernel
theorem u255_1336 {L : Nat} {xs : Nat → Int32} {H : jm_H} {Q : Option Value → jm_H → Prop} {r1 r2 : Nat} {x3 : Int32} : jm_w (some (L, xs)) 49 255 1336 [.ref 1, .ref r1, .ref r2, .int x3] [] H Q = Q (some (.int (1 : Int32))) H := (jsci at255_1336 rfl rfl).trans (jsret_z at255_1337 rfl (by decide))
theorem en255 {L : Nat} {xs : Nat → Int32} {H : jm_H} {Q : Option Value → jm_H → Prop} {r0 : Nat} : jm_c (some (L, xs)) 255 [.ref r0] H Q = jm_w (some (L, xs)) 49 255 0 [.ref r0, .null, .null, .null] [] H Q := rfl
