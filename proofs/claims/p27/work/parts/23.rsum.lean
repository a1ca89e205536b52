theorem at42_0 : jm_at 42 0 = some (.iconst 0) := by decide +kernel
theorem at42_1 : jm_at 42 1 = some (.istore_n 1) := by decide +kernel
theorem u42_0 {S : Option (Nat × (Nat → Int32))} {H : jm_H} {Q : Option Value → jm_H → Prop} {r0 : Nat} : jm_w S 1 42 0 [.ref r0, .null] [] H Q = jm_w S 1 42 2 [.ref r0, .int (0 : Int32)] [] H Q := (jsci at42_0 rfl rfl).trans (js1 at42_1 rfl rfl rfl)
theorem at42_2 : jm_at 42 2 = some (.iload_n 1) := by decide +kernel
theorem at42_3 : jm_at 42 3 = some (.aload_n 0) := by decide +kernel
theorem at42_4 : jm_at 42 4 = some (.getfield 9) := by decide +kernel
theorem rv42g_9 : jm_rv 42 (.getfield 9) = (0, 7, 0, 0) := by decide +kernel
theorem at42_7 : jm_at 42 7 = some (.arraylength) := by decide +kernel
theorem at42_8 : jm_at 42 8 = some (.if_icmp .ge 16) := by decide +kernel
theorem u42_2 {S : Option (Nat × (Nat → Int32))} {H : jm_H} {Q : Option Value → jm_H → Prop} {r0 : Nat} {x1 : Int32} (h0 : jm_tg H r0 = 8) (h1 : ¬ jm_R H r0 0 = 0) (h2 : ¬ (jm_R H r0 0) = 1) (h3 : 100 ≤ jm_tg H (jm_R H r0 0)) : jm_w S 1 42 2 [.ref r0, .int x1] [] H Q = if (Int32.ofNat (jm_ln H (jm_R H r0 0))) ≤ x1 then jm_w S 1 42 24 [.ref r0, .int x1] [] H Q else jm_w S 1 42 11 [.ref r0, .int x1] [] H Q := (js1 at42_2 rfl rfl rfl).trans ((js1 at42_3 rfl rfl rfl).trans ((jsgR (H := H) at42_4 rv42g_9 rfl h0 h1 rfl).trans ((jsaln (H := H) at42_7 h2 h3 rfl).trans (jsif (P := (Int32.ofNat (jm_ln H (jm_R H r0 0))) ≤ x1) at42_8 rfl rfl))))
theorem at42_11 : jm_at 42 11 = some (.aload_n 0) := by decide +kernel
theorem at42_12 : jm_at 42 12 = some (.getfield 9) := by decide +kernel
theorem at42_15 : jm_at 42 15 = some (.iload_n 1) := by decide +kernel
theorem at42_16 : jm_at 42 16 = some (.lconst 0) := by decide +kernel
theorem at42_17 : jm_at 42 17 = some (.lastore) := by decide +kernel
theorem at42_18 : jm_at 42 18 = some (.iinc 1 1) := by decide +kernel
theorem at42_21 : jm_at 42 21 = some (.goto (-19)) := by decide +kernel
theorem u42_11 {S : Option (Nat × (Nat → Int32))} {H : jm_H} {Q : Option Value → jm_H → Prop} {r0 : Nat} {x1 : Int32} (h0 : jm_tg H r0 = 8) (h1 : ¬ jm_R H r0 0 = 0) (h2 : ¬ (x1 < 0 ∨ jm_ln H (jm_R H r0 0) ≤ Int32.toNatClampNeg x1)) (h3 : jm_tg H (jm_R H r0 0) = 101) : jm_w S 1 42 11 [.ref r0, .int x1] [] H Q = jm_w S 1 42 2 [.ref r0, .int (x1 + 1)] [] (jm_pL H (jm_R H r0 0) (Int32.toNatClampNeg x1) (0 : Int64)) Q := (js1 at42_11 rfl rfl rfl).trans ((jsgR (H := H) at42_12 rv42g_9 rfl h0 h1 rfl).trans ((js1 at42_15 rfl rfl rfl).trans ((jscl at42_16 rfl rfl).trans ((jslas (H := H) at42_17 h3 h2 rfl).trans ((jsinc at42_18 rfl rfl rfl).trans (js2 at42_21 rfl rfl))))))
theorem at42_24 : jm_at 42 24 = some (.aload_n 0) := by decide +kernel
theorem at42_25 : jm_at 42 25 = some (.iconst 0) := by decide +kernel
theorem at42_26 : jm_at 42 26 = some (.putfield 13) := by decide +kernel
theorem rv42p_13 : jm_rv 42 (.putfield 13) = (0, 7, 1, 0) := by decide +kernel
theorem at42_29 : jm_at 42 29 = some (.aload_n 0) := by decide +kernel
theorem at42_30 : jm_at 42 30 = some (.iconst 0) := by decide +kernel
theorem at42_31 : jm_at 42 31 = some (.putfield 17) := by decide +kernel
theorem rv42p_17 : jm_rv 42 (.putfield 17) = (0, 7, 2, 0) := by decide +kernel
theorem at42_34 : jm_at 42 34 = some (.return_) := by decide +kernel
theorem u42_24 {S : Option (Nat × (Nat → Int32))} {H : jm_H} {Q : Option Value → jm_H → Prop} {r0 : Nat} {x1 : Int32} (h0 : jm_tg H r0 = 8) : jm_w S 1 42 24 [.ref r0, .int x1] [] H Q = Q none (jm_pI (jm_pI H r0 1 (0 : Int32)) r0 2 (0 : Int32)) := (js1 at42_24 rfl rfl rfl).trans ((jsci at42_25 rfl rfl).trans ((jspZ (H := H) at42_26 rv42p_13 rfl h0 (by decide) rfl).trans ((js1 at42_29 rfl rfl rfl).trans ((jsci at42_30 rfl rfl).trans ((jspZ (H := (jm_pI H r0 1 (0 : Int32))) at42_31 rv42p_17 rfl h0 (by decide) rfl).trans (jsret_v at42_34 rfl))))))
theorem en42 {S : Option (Nat × (Nat → Int32))} {H : jm_H} {Q : Option Value → jm_H → Prop} {r0 : Nat} : jm_c S 42 [.ref r0] H Q = jm_w S 1 42 0 [.ref r0, .null] [] H Q := rfl
theorem at80_0 : jm_at 80 0 = some (.aload_n 0) := by decide +kernel
theorem at80_1 : jm_at 80 1 = some (.aload_n 0) := by decide +kernel
theorem at80_2 : jm_at 80 2 = some (.getfield 17) := by decide +kernel
theorem rv80g_17 : jm_rv 80 (.getfield 17) = (0, 7, 2, 0) := by decide +kernel
theorem at80_5 : jm_at 80 5 = some (.ifCond .ne 17) := by decide +kernel
theorem u80_0 {S : Option (Nat × (Nat → Int32))} {H : jm_H} {Q : Option Value → jm_H → Prop} {r0 r1 r2 : Nat} {x3 : Int32} (h0 : jm_tg H r0 = 8) : jm_w S 3 80 0 [.ref r0, .ref r1, .ref r2, .int x3, .null, .null] [] H Q = if ¬ (jm_I H r0 2) = 0 then jm_w S 3 80 22 [.ref r0, .ref r1, .ref r2, .int x3, .null, .null] [.ref r0] H Q else jm_w S 3 80 8 [.ref r0, .ref r1, .ref r2, .int x3, .null, .null] [.ref r0] H Q := (js1 at80_0 rfl rfl rfl).trans ((js1 at80_1 rfl rfl rfl).trans ((jsgI (H := H) at80_2 rv80g_17 (Or.inr rfl) h0 rfl).trans (jsif (P := ¬ (jm_I H r0 2) = 0) at80_5 rfl rfl)))
theorem at80_8 : jm_at 80 8 = some (.aload_n 1) := by decide +kernel
theorem at80_9 : jm_at 80 9 = some (.getfield 24) := by decide +kernel
theorem rv80g_24 : jm_rv 80 (.getfield 24) = (0, 2, 1, 0) := by decide +kernel
theorem at80_12 : jm_at 80 12 = some (.ifCond .ne 10) := by decide +kernel
theorem u80_8 {S : Option (Nat × (Nat → Int32))} {H : jm_H} {Q : Option Value → jm_H → Prop} {r0 r1 r2 o0 : Nat} {x3 : Int32} (h0 : jm_tg H r1 = 3) : jm_w S 3 80 8 [.ref r0, .ref r1, .ref r2, .int x3, .null, .null] [.ref o0] H Q = if ¬ (jm_I H r1 1) = 0 then jm_w S 3 80 22 [.ref r0, .ref r1, .ref r2, .int x3, .null, .null] [.ref o0] H Q else jm_w S 3 80 15 [.ref r0, .ref r1, .ref r2, .int x3, .null, .null] [.ref o0] H Q := (js1 at80_8 rfl rfl rfl).trans ((jsgI (H := H) at80_9 rv80g_24 (Or.inr rfl) h0 rfl).trans (jsif (P := ¬ (jm_I H r1 1) = 0) at80_12 rfl rfl))
theorem at80_15 : jm_at 80 15 = some (.aload_n 2) := by decide +kernel
theorem at80_16 : jm_at 80 16 = some (.getfield 24) := by decide +kernel
theorem at80_19 : jm_at 80 19 = some (.ifCond .eq 7) := by decide +kernel
theorem u80_15 {S : Option (Nat × (Nat → Int32))} {H : jm_H} {Q : Option Value → jm_H → Prop} {r0 r1 r2 o0 : Nat} {x3 : Int32} (h0 : jm_tg H r2 = 3) : jm_w S 3 80 15 [.ref r0, .ref r1, .ref r2, .int x3, .null, .null] [.ref o0] H Q = if (jm_I H r2 1) = 0 then jm_w S 3 80 26 [.ref r0, .ref r1, .ref r2, .int x3, .null, .null] [.ref o0] H Q else jm_w S 3 80 22 [.ref r0, .ref r1, .ref r2, .int x3, .null, .null] [.ref o0] H Q := (js1 at80_15 rfl rfl rfl).trans ((jsgI (H := H) at80_16 rv80g_24 (Or.inr rfl) h0 rfl).trans (jsif (P := (jm_I H r2 1) = 0) at80_19 rfl rfl))
theorem at80_22 : jm_at 80 22 = some (.iconst 1) := by decide +kernel
theorem at80_23 : jm_at 80 23 = some (.goto 4) := by decide +kernel
theorem u80_22 {S : Option (Nat × (Nat → Int32))} {H : jm_H} {Q : Option Value → jm_H → Prop} {r0 r1 r2 o0 : Nat} {x3 : Int32} : jm_w S 3 80 22 [.ref r0, .ref r1, .ref r2, .int x3, .null, .null] [.ref o0] H Q = jm_w S 3 80 27 [.ref r0, .ref r1, .ref r2, .int x3, .null, .null] [.int (1 : Int32), .ref o0] H Q := (jsci at80_22 rfl rfl).trans (js2 at80_23 rfl rfl)
theorem at80_26 : jm_at 80 26 = some (.iconst 0) := by decide +kernel
theorem u80_26 {S : Option (Nat × (Nat → Int32))} {H : jm_H} {Q : Option Value → jm_H → Prop} {r0 r1 r2 o0 : Nat} {x3 : Int32} : jm_w S 3 80 26 [.ref r0, .ref r1, .ref r2, .int x3, .null, .null] [.ref o0] H Q = jm_w S 3 80 27 [.ref r0, .ref r1, .ref r2, .int x3, .null, .null] [.int (0 : Int32), .ref o0] H Q := jsci at80_26 rfl rfl
theorem at80_27 : jm_at 80 27 = some (.putfield 17) := by decide +kernel
theorem rv80p_17 : jm_rv 80 (.putfield 17) = (0, 7, 2, 0) := by decide +kernel
theorem at80_30 : jm_at 80 30 = some (.aload_n 0) := by decide +kernel
theorem at80_31 : jm_at 80 31 = some (.getfield 17) := by decide +kernel
theorem at80_34 : jm_at 80 34 = some (.ifCond .ne 17) := by decide +kernel
theorem u80_27 {S : Option (Nat × (Nat → Int32))} {H : jm_H} {Q : Option Value → jm_H → Prop} {r0 r1 r2 o0 : Nat} {x3 p1 : Int32} (h0 : jm_tg H o0 = 8) (h1 : p1 = 0 ∨ p1 = 1) (h2 : jm_tg H r0 = 8) : jm_w S 3 80 27 [.ref r0, .ref r1, .ref r2, .int x3, .null, .null] [.int p1, .ref o0] H Q = if ¬ (jm_I (jm_pI H o0 2 p1) r0 2) = 0 then jm_w S 3 80 51 [.ref r0, .ref r1, .ref r2, .int x3, .null, .null] [] (jm_pI H o0 2 p1) Q else jm_w S 3 80 37 [.ref r0, .ref r1, .ref r2, .int x3, .null, .null] [] (jm_pI H o0 2 p1) Q := (jspZ (H := H) at80_27 rv80p_17 rfl h0 h1 rfl).trans ((js1 at80_30 rfl rfl rfl).trans ((jsgI (H := (jm_pI H o0 2 p1)) at80_31 rv80g_17 (Or.inr rfl) h2 rfl).trans (jsif (P := ¬ (jm_I (jm_pI H o0 2 p1) r0 2) = 0) at80_34 rfl rfl)))
theorem at80_37 : jm_at 80 37 = some (.aload_n 1) := by decide +kernel
theorem at80_38 : jm_at 80 38 = some (.getfield 27) := by decide +kernel
theorem rv80g_27 : jm_rv 80 (.getfield 27) = (0, 2, 2, 0) := by decide +kernel
theorem at80_41 : jm_at 80 41 = some (.ifCond .eq 10) := by decide +kernel
theorem u80_37 {S : Option (Nat × (Nat → Int32))} {H : jm_H} {Q : Option Value → jm_H → Prop} {r0 r1 r2 : Nat} {x3 : Int32} (h0 : jm_tg H r1 = 3) : jm_w S 3 80 37 [.ref r0, .ref r1, .ref r2, .int x3, .null, .null] [] H Q = if (jm_I H r1 2) = 0 then jm_w S 3 80 51 [.ref r0, .ref r1, .ref r2, .int x3, .null, .null] [] H Q else jm_w S 3 80 44 [.ref r0, .ref r1, .ref r2, .int x3, .null, .null] [] H Q := (js1 at80_37 rfl rfl rfl).trans ((jsgI (H := H) at80_38 rv80g_27 (Or.inl rfl) h0 rfl).trans (jsif (P := (jm_I H r1 2) = 0) at80_41 rfl rfl))
theorem at80_44 : jm_at 80 44 = some (.aload_n 2) := by decide +kernel
theorem at80_45 : jm_at 80 45 = some (.getfield 27) := by decide +kernel
theorem at80_48 : jm_at 80 48 = some (.ifCond .ne 4) := by decide +kernel
theorem u80_44 {S : Option (Nat × (Nat → Int32))} {H : jm_H} {Q : Option Value → jm_H → Prop} {r0 r1 r2 : Nat} {x3 : Int32} (h0 : jm_tg H r2 = 3) : jm_w S 3 80 44 [.ref r0, .ref r1, .ref r2, .int x3, .null, .null] [] H Q = if ¬ (jm_I H r2 2) = 0 then jm_w S 3 80 52 [.ref r0, .ref r1, .ref r2, .int x3, .null, .null] [] H Q else jm_w S 3 80 51 [.ref r0, .ref r1, .ref r2, .int x3, .null, .null] [] H Q := (js1 at80_44 rfl rfl rfl).trans ((jsgI (H := H) at80_45 rv80g_27 (Or.inl rfl) h0 rfl).trans (jsif (P := ¬ (jm_I H r2 2) = 0) at80_48 rfl rfl))
theorem at80_51 : jm_at 80 51 = some (.return_) := by decide +kernel
theorem u80_51 {S : Option (Nat × (Nat → Int32))} {H : jm_H} {Q : Option Value → jm_H → Prop} {r0 r1 r2 : Nat} {x3 : Int32} : jm_w S 3 80 51 [.ref r0, .ref r1, .ref r2, .int x3, .null, .null] [] H Q = Q none H := jsret_v at80_51 rfl
theorem at80_52 : jm_at 80 52 = some (.aload_n 1) := by decide +kernel
theorem at80_53 : jm_at 80 53 = some (.getfield 27) := by decide +kernel
theorem at80_56 : jm_at 80 56 = some (.aload_n 2) := by decide +kernel
theorem at80_57 : jm_at 80 57 = some (.getfield 27) := by decide +kernel
theorem at80_60 : jm_at 80 60 = some (.if_icmp .eq 7) := by decide +kernel
theorem u80_52 {S : Option (Nat × (Nat → Int32))} {H : jm_H} {Q : Option Value → jm_H → Prop} {r0 r1 r2 : Nat} {x3 : Int32} (h0 : jm_tg H r1 = 3) (h1 : jm_tg H r2 = 3) : jm_w S 3 80 52 [.ref r0, .ref r1, .ref r2, .int x3, .null, .null] [] H Q = if (jm_I H r1 2) = (jm_I H r2 2) then jm_w S 3 80 67 [.ref r0, .ref r1, .ref r2, .int x3, .null, .null] [] H Q else jm_w S 3 80 63 [.ref r0, .ref r1, .ref r2, .int x3, .null, .null] [] H Q := (js1 at80_52 rfl rfl rfl).trans ((jsgI (H := H) at80_53 rv80g_27 (Or.inl rfl) h0 rfl).trans ((js1 at80_56 rfl rfl rfl).trans ((jsgI (H := H) at80_57 rv80g_27 (Or.inl rfl) h1 rfl).trans (jsif (P := (jm_I H r1 2) = (jm_I H r2 2)) at80_60 rfl rfl))))
theorem at80_63 : jm_at 80 63 = some (.iconst 1) := by decide +kernel
theorem at80_64 : jm_at 80 64 = some (.goto 4) := by decide +kernel
theorem u80_63 {S : Option (Nat × (Nat → Int32))} {H : jm_H} {Q : Option Value → jm_H → Prop} {r0 r1 r2 : Nat} {x3 : Int32} : jm_w S 3 80 63 [.ref r0, .ref r1, .ref r2, .int x3, .null, .null] [] H Q = jm_w S 3 80 68 [.ref r0, .ref r1, .ref r2, .int x3, .null, .null] [.int (1 : Int32)] H Q := (jsci at80_63 rfl rfl).trans (js2 at80_64 rfl rfl)
theorem at80_67 : jm_at 80 67 = some (.iconst 0) := by decide +kernel
theorem u80_67 {S : Option (Nat × (Nat → Int32))} {H : jm_H} {Q : Option Value → jm_H → Prop} {r0 r1 r2 : Nat} {x3 : Int32} : jm_w S 3 80 67 [.ref r0, .ref r1, .ref r2, .int x3, .null, .null] [] H Q = jm_w S 3 80 68 [.ref r0, .ref r1, .ref r2, .int x3, .null, .null] [.int (0 : Int32)] H Q := jsci at80_67 rfl rfl
theorem at80_68 : jm_at 80 68 = some (.istore 4) := by decide +kernel
theorem at80_70 : jm_at 80 70 = some (.iload 4) := by decide +kernel
theorem at80_72 : jm_at 80 72 = some (.iload_n 3) := by decide +kernel
theorem at80_73 : jm_at 80 73 = some (.if_icmp .eq 7) := by decide +kernel
theorem u80_68 {S : Option (Nat × (Nat → Int32))} {H : jm_H} {Q : Option Value → jm_H → Prop} {r0 r1 r2 : Nat} {x3 p0 : Int32} : jm_w S 3 80 68 [.ref r0, .ref r1, .ref r2, .int x3, .null, .null] [.int p0] H Q = if p0 = x3 then jm_w S 3 80 80 [.ref r0, .ref r1, .ref r2, .int x3, .int p0, .null] [] H Q else jm_w S 3 80 76 [.ref r0, .ref r1, .ref r2, .int x3, .int p0, .null] [] H Q := (js1 at80_68 rfl rfl rfl).trans ((js1 at80_70 rfl rfl rfl).trans ((js1 at80_72 rfl rfl rfl).trans (jsif (P := p0 = x3) at80_73 rfl rfl)))
theorem at80_76 : jm_at 80 76 = some (.iconst 1) := by decide +kernel
theorem at80_77 : jm_at 80 77 = some (.goto 4) := by decide +kernel
theorem u80_76 {S : Option (Nat × (Nat → Int32))} {H : jm_H} {Q : Option Value → jm_H → Prop} {r0 r1 r2 : Nat} {x3 x4 : Int32} : jm_w S 3 80 76 [.ref r0, .ref r1, .ref r2, .int x3, .int x4, .null] [] H Q = jm_w S 3 80 81 [.ref r0, .ref r1, .ref r2, .int x3, .int x4, .null] [.int (1 : Int32)] H Q := (jsci at80_76 rfl rfl).trans (js2 at80_77 rfl rfl)
theorem at80_80 : jm_at 80 80 = some (.iconst 0) := by decide +kernel
theorem u80_80 {S : Option (Nat × (Nat → Int32))} {H : jm_H} {Q : Option Value → jm_H → Prop} {r0 r1 r2 : Nat} {x3 x4 : Int32} : jm_w S 3 80 80 [.ref r0, .ref r1, .ref r2, .int x3, .int x4, .null] [] H Q = jm_w S 3 80 81 [.ref r0, .ref r1, .ref r2, .int x3, .int x4, .null] [.int (0 : Int32)] H Q := jsci at80_80 rfl rfl
theorem at80_81 : jm_at 80 81 = some (.istore 5) := by decide +kernel
theorem at80_83 : jm_at 80 83 = some (.aload_n 0) := by decide +kernel
theorem at80_84 : jm_at 80 84 = some (.aload_n 1) := by decide +kernel
theorem at80_85 : jm_at 80 85 = some (.getfield 31) := by decide +kernel
theorem rv80g_31 : jm_rv 80 (.getfield 31) = (0, 2, 3, 0) := by decide +kernel
theorem at80_88 : jm_at 80 88 = some (.aload_n 2) := by decide +kernel
theorem at80_89 : jm_at 80 89 = some (.getfield 31) := by decide +kernel
theorem at80_92 : jm_at 80 92 = some (.lmul) := by decide +kernel
theorem at80_93 : jm_at 80 93 = some (.aload_n 1) := by decide +kernel
theorem at80_94 : jm_at 80 94 = some (.getfield 35) := by decide +kernel
theorem rv80g_35 : jm_rv 80 (.getfield 35) = (0, 2, 4, 0) := by decide +kernel
theorem at80_97 : jm_at 80 97 = some (.aload_n 2) := by decide +kernel
theorem at80_98 : jm_at 80 98 = some (.getfield 35) := by decide +kernel
theorem at80_101 : jm_at 80 101 = some (.iadd) := by decide +kernel
theorem at80_102 : jm_at 80 102 = some (.bipush (-96)) := by decide +kernel
theorem at80_104 : jm_at 80 104 = some (.isub) := by decide +kernel
theorem at80_105 : jm_at 80 105 = some (.iload 5) := by decide +kernel
theorem at80_107 : jm_at 80 107 = some (.aload_n 0) := by decide +kernel
theorem at80_108 : jm_at 80 108 = some (.getfield 13) := by decide +kernel
theorem rv80g_13 : jm_rv 80 (.getfield 13) = (0, 7, 1, 0) := by decide +kernel
theorem at80_111 : jm_at 80 111 = some (.if_icmp .ne 7) := by decide +kernel
theorem u80_81 {S : Option (Nat × (Nat → Int32))} {H : jm_H} {Q : Option Value → jm_H → Prop} {r0 r1 r2 : Nat} {x3 x4 p0 : Int32} (h0 : jm_tg H r1 = 3) (h1 : jm_tg H r2 = 3) (h2 : jm_tg H r0 = 8) : jm_w S 3 80 81 [.ref r0, .ref r1, .ref r2, .int x3, .int x4, .null] [.int p0] H Q = if ¬ p0 = (jm_I H r0 1) then jm_w S 3 80 118 [.ref r0, .ref r1, .ref r2, .int x3, .int x4, .int p0] [.int (((jm_I H r1 4) + (jm_I H r2 4)) - (-96 : Int32)), .long ((jm_L H r1 3) * (jm_L H r2 3)), .ref r0] H Q else jm_w S 3 80 114 [.ref r0, .ref r1, .ref r2, .int x3, .int x4, .int p0] [.int (((jm_I H r1 4) + (jm_I H r2 4)) - (-96 : Int32)), .long ((jm_L H r1 3) * (jm_L H r2 3)), .ref r0] H Q := (js1 at80_81 rfl rfl rfl).trans ((js1 at80_83 rfl rfl rfl).trans ((js1 at80_84 rfl rfl rfl).trans ((jsgL (H := H) at80_85 rv80g_31 rfl h0 rfl).trans ((js1 at80_88 rfl rfl rfl).trans ((jsgL (H := H) at80_89 rv80g_31 rfl h1 rfl).trans ((js0 at80_92 rfl rfl rfl).trans ((js1 at80_93 rfl rfl rfl).trans ((jsgI (H := H) at80_94 rv80g_35 (Or.inl rfl) h0 rfl).trans ((js1 at80_97 rfl rfl rfl).trans ((jsgI (H := H) at80_98 rv80g_35 (Or.inl rfl) h1 rfl).trans ((js0 at80_101 rfl rfl rfl).trans ((jscb at80_102 rfl rfl).trans ((js0 at80_104 rfl rfl rfl).trans ((js1 at80_105 rfl rfl rfl).trans ((js1 at80_107 rfl rfl rfl).trans ((jsgI (H := H) at80_108 rv80g_13 (Or.inr rfl) h2 rfl).trans (jsif (P := ¬ p0 = (jm_I H r0 1)) at80_111 rfl rfl)))))))))))))))))
theorem at80_114 : jm_at 80 114 = some (.iconst 1) := by decide +kernel
theorem at80_115 : jm_at 80 115 = some (.goto 4) := by decide +kernel
theorem u80_114 {S : Option (Nat × (Nat → Int32))} {H : jm_H} {Q : Option Value → jm_H → Prop} {r0 r1 r2 o0 : Nat} {x3 x4 x5 p2 : Int32} {q1 : Int64} : jm_w S 3 80 114 [.ref r0, .ref r1, .ref r2, .int x3, .int x4, .int x5] [.int p2, .long q1, .ref o0] H Q = jm_w S 3 80 119 [.ref r0, .ref r1, .ref r2, .int x3, .int x4, .int x5] [.int (1 : Int32), .int p2, .long q1, .ref o0] H Q := (jsci at80_114 rfl rfl).trans (js2 at80_115 rfl rfl)
theorem at80_118 : jm_at 80 118 = some (.iconst 0) := by decide +kernel
theorem u80_118 {S : Option (Nat × (Nat → Int32))} {H : jm_H} {Q : Option Value → jm_H → Prop} {r0 r1 r2 o0 : Nat} {x3 x4 x5 p2 : Int32} {q1 : Int64} : jm_w S 3 80 118 [.ref r0, .ref r1, .ref r2, .int x3, .int x4, .int x5] [.int p2, .long q1, .ref o0] H Q = jm_w S 3 80 119 [.ref r0, .ref r1, .ref r2, .int x3, .int x4, .int x5] [.int (0 : Int32), .int p2, .long q1, .ref o0] H Q := jsci at80_118 rfl rfl
theorem at80_119 : jm_at 80 119 = some (.invokevirtual 38) := by decide +kernel
theorem rv80i_38 : jm_rv 80 (.invokevirtual 38) = (2, 81, 0, 0) := by decide +kernel
theorem u80_119 {S : Option (Nat × (Nat → Int32))} {H : jm_H} {Q : Option Value → jm_H → Prop} {r0 r1 r2 o0 : Nat} {x3 x4 x5 p2 p3 : Int32} {q1 : Int64} (h0 : jm_tg H o0 = 8) : jm_w S 3 80 119 [.ref r0, .ref r1, .ref r2, .int x3, .int x4, .int x5] [.int p3, .int p2, .long q1, .ref o0] H Q = jm_c S 81 [.ref o0, .long q1, .int p2, .int p3] H (fun v G => jm_w S 3 80 122 [.ref r0, .ref r1, .ref r2, .int x3, .int x4, .int x5] (v.toList ++ []) G Q) := jscall (H := H) (as := [.ref o0, .long q1, .int p2, .int p3]) (q := []) at80_119 rfl rv80i_38 (jscutV rfl rfl rfl (Nat.le_of_ble_eq_true rfl) rfl h0) rfl (Nat.le_of_ble_eq_true rfl) rfl rfl
theorem at80_122 : jm_at 80 122 = some (.aload_n 0) := by decide +kernel
theorem at80_123 : jm_at 80 123 = some (.getfield 9) := by decide +kernel
theorem rv80g_9 : jm_rv 80 (.getfield 9) = (0, 7, 0, 0) := by decide +kernel
theorem at80_126 : jm_at 80 126 = some (.bipush 6) := by decide +kernel
theorem at80_128 : jm_at 80 128 = some (.laload) := by decide +kernel
theorem at80_129 : jm_at 80 129 = some (.bipush 31) := by decide +kernel
theorem at80_131 : jm_at 80 131 = some (.lshr) := by decide +kernel
theorem at80_132 : jm_at 80 132 = some (.lconst 0) := by decide +kernel
theorem at80_133 : jm_at 80 133 = some (.lcmp) := by decide +kernel
theorem at80_134 : jm_at 80 134 = some (.ifCond .eq 23) := by decide +kernel
theorem u80_122 {S : Option (Nat × (Nat → Int32))} {H : jm_H} {Q : Option Value → jm_H → Prop} {r0 r1 r2 : Nat} {x3 x4 x5 : Int32} (h0 : jm_tg H r0 = 8) (h1 : ¬ jm_R H r0 0 = 0) (h2 : ¬ ((6 : Int32) < 0 ∨ jm_ln H (jm_R H r0 0) ≤ Int32.toNatClampNeg (6 : Int32))) (h3 : jm_tg H (jm_R H r0 0) = 101) : jm_w S 3 80 122 [.ref r0, .ref r1, .ref r2, .int x3, .int x4, .int x5] [] H Q = if (lg_cmp ((jm_L H (jm_R H r0 0) (Int32.toNatClampNeg (6 : Int32))) >>> (Int32.toInt64 (31 : Int32) &&& 63)) (0 : Int64)) = 0 then jm_w S 3 80 157 [.ref r0, .ref r1, .ref r2, .int x3, .int x4, .int x5] [] H Q else jm_w S 3 80 137 [.ref r0, .ref r1, .ref r2, .int x3, .int x4, .int x5] [] H Q := (js1 at80_122 rfl rfl rfl).trans ((jsgR (H := H) at80_123 rv80g_9 rfl h0 h1 rfl).trans ((jscb at80_126 rfl rfl).trans ((jslal (H := H) at80_128 h3 h2 rfl).trans ((jscb at80_129 rfl rfl).trans ((js0 at80_131 rfl rfl rfl).trans ((jscl at80_132 rfl rfl).trans ((js0 at80_133 rfl rfl rfl).trans (jsif (P := (lg_cmp ((jm_L H (jm_R H r0 0) (Int32.toNatClampNeg (6 : Int32))) >>> (Int32.toInt64 (31 : Int32) &&& 63)) (0 : Int64)) = 0) at80_134 rfl rfl))))))))
theorem at80_137 : jm_at 80 137 = some (.aload_n 0) := by decide +kernel
theorem at80_138 : jm_at 80 138 = some (.invokevirtual 42) := by decide +kernel
theorem rv80i_42 : jm_rv 80 (.invokevirtual 42) = (2, 82, 0, 0) := by decide +kernel
theorem u80_137 {S : Option (Nat × (Nat → Int32))} {H : jm_H} {Q : Option Value → jm_H → Prop} {r0 r1 r2 : Nat} {x3 x4 x5 : Int32} (h0 : jm_tg H r0 = 8) : jm_w S 3 80 137 [.ref r0, .ref r1, .ref r2, .int x3, .int x4, .int x5] [] H Q = jm_c S 82 [.ref r0] H (fun v G => jm_w S 3 80 141 [.ref r0, .ref r1, .ref r2, .int x3, .int x4, .int x5] (v.toList ++ []) G Q) := (js1 at80_137 rfl rfl rfl).trans (jscall (H := H) (as := [.ref r0]) (q := []) at80_138 rfl rv80i_42 (jscutV rfl rfl rfl (Nat.le_of_ble_eq_true rfl) rfl h0) rfl (Nat.le_of_ble_eq_true rfl) rfl rfl)
theorem at80_141 : jm_at 80 141 = some (.aload_n 0) := by decide +kernel
theorem at80_142 : jm_at 80 142 = some (.aload_n 0) := by decide +kernel
theorem at80_143 : jm_at 80 143 = some (.getfield 13) := by decide +kernel
theorem at80_146 : jm_at 80 146 = some (.ifCond .ne 7) := by decide +kernel
theorem u80_141 {S : Option (Nat × (Nat → Int32))} {H : jm_H} {Q : Option Value → jm_H → Prop} {r0 r1 r2 : Nat} {x3 x4 x5 : Int32} (h0 : jm_tg H r0 = 8) : jm_w S 3 80 141 [.ref r0, .ref r1, .ref r2, .int x3, .int x4, .int x5] [] H Q = if ¬ (jm_I H r0 1) = 0 then jm_w S 3 80 153 [.ref r0, .ref r1, .ref r2, .int x3, .int x4, .int x5] [.ref r0] H Q else jm_w S 3 80 149 [.ref r0, .ref r1, .ref r2, .int x3, .int x4, .int x5] [.ref r0] H Q := (js1 at80_141 rfl rfl rfl).trans ((js1 at80_142 rfl rfl rfl).trans ((jsgI (H := H) at80_143 rv80g_13 (Or.inr rfl) h0 rfl).trans (jsif (P := ¬ (jm_I H r0 1) = 0) at80_146 rfl rfl)))
theorem at80_149 : jm_at 80 149 = some (.iconst 1) := by decide +kernel
theorem at80_150 : jm_at 80 150 = some (.goto 4) := by decide +kernel
theorem u80_149 {S : Option (Nat × (Nat → Int32))} {H : jm_H} {Q : Option Value → jm_H → Prop} {r0 r1 r2 o0 : Nat} {x3 x4 x5 : Int32} : jm_w S 3 80 149 [.ref r0, .ref r1, .ref r2, .int x3, .int x4, .int x5] [.ref o0] H Q = jm_w S 3 80 154 [.ref r0, .ref r1, .ref r2, .int x3, .int x4, .int x5] [.int (1 : Int32), .ref o0] H Q := (jsci at80_149 rfl rfl).trans (js2 at80_150 rfl rfl)
theorem at80_153 : jm_at 80 153 = some (.iconst 0) := by decide +kernel
theorem u80_153 {S : Option (Nat × (Nat → Int32))} {H : jm_H} {Q : Option Value → jm_H → Prop} {r0 r1 r2 o0 : Nat} {x3 x4 x5 : Int32} : jm_w S 3 80 153 [.ref r0, .ref r1, .ref r2, .int x3, .int x4, .int x5] [.ref o0] H Q = jm_w S 3 80 154 [.ref r0, .ref r1, .ref r2, .int x3, .int x4, .int x5] [.int (0 : Int32), .ref o0] H Q := jsci at80_153 rfl rfl
theorem at80_154 : jm_at 80 154 = some (.putfield 13) := by decide +kernel
theorem rv80p_13 : jm_rv 80 (.putfield 13) = (0, 7, 1, 0) := by decide +kernel
theorem u80_154 {S : Option (Nat × (Nat → Int32))} {H : jm_H} {Q : Option Value → jm_H → Prop} {r0 r1 r2 o0 : Nat} {x3 x4 x5 p1 : Int32} (h0 : jm_tg H o0 = 8) (h1 : p1 = 0 ∨ p1 = 1) : jm_w S 3 80 154 [.ref r0, .ref r1, .ref r2, .int x3, .int x4, .int x5] [.int p1, .ref o0] H Q = jm_w S 3 80 157 [.ref r0, .ref r1, .ref r2, .int x3, .int x4, .int x5] [] (jm_pI H o0 1 p1) Q := jspZ (H := H) at80_154 rv80p_13 rfl h0 h1 rfl
theorem at80_157 : jm_at 80 157 = some (.return_) := by decide +kernel
theorem u80_157 {S : Option (Nat × (Nat → Int32))} {H : jm_H} {Q : Option Value → jm_H → Prop} {r0 r1 r2 : Nat} {x3 x4 x5 : Int32} : jm_w S 3 80 157 [.ref r0, .ref r1, .ref r2, .int x3, .int x4, .int x5] [] H Q = Q none H := jsret_v at80_157 rfl
theorem en80 {S : Option (Nat × (Nat → Int32))} {H : jm_H} {Q : Option Value → jm_H → Prop} {r0 r1 r2 : Nat} {x3 : Int32} : jm_c S 80 [.ref r0, .ref r1, .ref r2, .int x3] H Q = jm_w S 3 80 0 [.ref r0, .ref r1, .ref r2, .int x3, .null, .null] [] H Q := rfl
theorem at81_0 : jm_at 81 0 = some (.iload_n 3) := by decide +kernel
theorem at81_1 : jm_at 81 1 = some (.iconst 5) := by decide +kernel
theorem at81_2 : jm_at 81 2 = some (.ishr) := by decide +kernel
theorem at81_3 : jm_at 81 3 = some (.istore 5) := by decide +kernel
theorem at81_5 : jm_at 81 5 = some (.lload_n 1) := by decide +kernel
theorem at81_6 : jm_at 81 6 = some (.iload_n 3) := by decide +kernel
theorem at81_7 : jm_at 81 7 = some (.bipush 31) := by decide +kernel
theorem at81_9 : jm_at 81 9 = some (.iand) := by decide +kernel
theorem at81_10 : jm_at 81 10 = some (.lshl) := by decide +kernel
theorem at81_11 : jm_at 81 11 = some (.lstore 6) := by decide +kernel
theorem at81_13 : jm_at 81 13 = some (.lload 6) := by decide +kernel
theorem at81_15 : jm_at 81 15 = some (.ldc2_w 45) := by decide +kernel
theorem rv81l_45 : jm_rv 81 (.ldc2_w 45) = (9, 0, 0, 4294967295) := by decide +kernel
theorem at81_18 : jm_at 81 18 = some (.land) := by decide +kernel
theorem at81_19 : jm_at 81 19 = some (.lstore 8) := by decide +kernel
theorem at81_21 : jm_at 81 21 = some (.lload 6) := by decide +kernel
theorem at81_23 : jm_at 81 23 = some (.bipush 32) := by decide +kernel
theorem at81_25 : jm_at 81 25 = some (.lshr) := by decide +kernel
theorem at81_26 : jm_at 81 26 = some (.lstore 10) := by decide +kernel
theorem at81_28 : jm_at 81 28 = some (.iload 4) := by decide +kernel
theorem at81_30 : jm_at 81 30 = some (.ifCond .eq 8) := by decide +kernel
theorem u81_0 {S : Option (Nat × (Nat → Int32))} {H : jm_H} {Q : Option Value → jm_H → Prop} {r0 : Nat} {y1 : Int64} {x3 x4 : Int32} : jm_w S 2 81 0 [.ref r0, .long y1, .null, .int x3, .int x4, .null, .null, .null, .null, .null, .null, .null, .null, .null, .null, .null, .null, .null, .null] [] H Q = if x4 = 0 then jm_w S 2 81 38 [.ref r0, .long y1, .null, .int x3, .int x4, .int (x3 >>> ((5 : Int32) &&& 31)), .long (y1 <<< (Int32.toInt64 (x3 &&& (31 : Int32)) &&& 63)), .null, .long ((y1 <<< (Int32.toInt64 (x3 &&& (31 : Int32)) &&& 63)) &&& (4294967295 : Int64)), .null, .long ((y1 <<< (Int32.toInt64 (x3 &&& (31 : Int32)) &&& 63)) >>> (Int32.toInt64 (32 : Int32) &&& 63)), .null, .null, .null, .null, .null, .null, .null, .null] [] H Q else jm_w S 2 81 33 [.ref r0, .long y1, .null, .int x3, .int x4, .int (x3 >>> ((5 : Int32) &&& 31)), .long (y1 <<< (Int32.toInt64 (x3 &&& (31 : Int32)) &&& 63)), .null, .long ((y1 <<< (Int32.toInt64 (x3 &&& (31 : Int32)) &&& 63)) &&& (4294967295 : Int64)), .null, .long ((y1 <<< (Int32.toInt64 (x3 &&& (31 : Int32)) &&& 63)) >>> (Int32.toInt64 (32 : Int32) &&& 63)), .null, .null, .null, .null, .null, .null, .null, .null] [] H Q := (js1 at81_0 rfl rfl rfl).trans ((jsci at81_1 rfl rfl).trans ((js0 at81_2 rfl rfl rfl).trans ((js1 at81_3 rfl rfl rfl).trans ((js1 at81_5 rfl rfl rfl).trans ((js1 at81_6 rfl rfl rfl).trans ((jscb at81_7 rfl rfl).trans ((js0 at81_9 rfl rfl rfl).trans ((js0 at81_10 rfl rfl rfl).trans ((js1 at81_11 rfl rfl rfl).trans ((js1 at81_13 rfl rfl rfl).trans ((jsk2 at81_15 rv81l_45 rfl rfl).trans ((js0 at81_18 rfl rfl rfl).trans ((js1 at81_19 rfl rfl rfl).trans ((js1 at81_21 rfl rfl rfl).trans ((jscb at81_23 rfl rfl).trans ((js0 at81_25 rfl rfl rfl).trans ((js1 at81_26 rfl rfl rfl).trans ((js1 at81_28 rfl rfl rfl).trans (jsif (P := x4 = 0) at81_30 rfl rfl)))))))))))))))))))
theorem at81_33 : jm_at 81 33 = some (.lload 8) := by decide +kernel
theorem at81_35 : jm_at 81 35 = some (.goto 6) := by decide +kernel
theorem u81_33 {S : Option (Nat × (Nat → Int32))} {H : jm_H} {Q : Option Value → jm_H → Prop} {r0 : Nat} {y1 y6 y8 y10 : Int64} {x3 x4 x5 : Int32} : jm_w S 2 81 33 [.ref r0, .long y1, .null, .int x3, .int x4, .int x5, .long y6, .null, .long y8, .null, .long y10, .null, .null, .null, .null, .null, .null, .null, .null] [] H Q = jm_w S 2 81 41 [.ref r0, .long y1, .null, .int x3, .int x4, .int x5, .long y6, .null, .long y8, .null, .long y10, .null, .null, .null, .null, .null, .null, .null, .null] [.long y8] H Q := (js1 at81_33 rfl rfl rfl).trans (js2 at81_35 rfl rfl)
theorem at81_38 : jm_at 81 38 = some (.lload 8) := by decide +kernel
theorem at81_40 : jm_at 81 40 = some (.lneg) := by decide +kernel
theorem u81_38 {S : Option (Nat × (Nat → Int32))} {H : jm_H} {Q : Option Value → jm_H → Prop} {r0 : Nat} {y1 y6 y8 y10 : Int64} {x3 x4 x5 : Int32} : jm_w S 2 81 38 [.ref r0, .long y1, .null, .int x3, .int x4, .int x5, .long y6, .null, .long y8, .null, .long y10, .null, .null, .null, .null, .null, .null, .null, .null] [] H Q = jm_w S 2 81 41 [.ref r0, .long y1, .null, .int x3, .int x4, .int x5, .long y6, .null, .long y8, .null, .long y10, .null, .null, .null, .null, .null, .null, .null, .null] [.long (-y8)] H Q := (js1 at81_38 rfl rfl rfl).trans (js0 at81_40 rfl rfl rfl)
theorem at81_41 : jm_at 81 41 = some (.lstore 12) := by decide +kernel
theorem at81_43 : jm_at 81 43 = some (.iload 4) := by decide +kernel
theorem at81_45 : jm_at 81 45 = some (.ifCond .eq 8) := by decide +kernel
theorem u81_41 {S : Option (Nat × (Nat → Int32))} {H : jm_H} {Q : Option Value → jm_H → Prop} {r0 : Nat} {y1 y6 y8 y10 q0 : Int64} {x3 x4 x5 : Int32} : jm_w S 2 81 41 [.ref r0, .long y1, .null, .int x3, .int x4, .int x5, .long y6, .null, .long y8, .null, .long y10, .null, .null, .null, .null, .null, .null, .null, .null] [.long q0] H Q = if x4 = 0 then jm_w S 2 81 53 [.ref r0, .long y1, .null, .int x3, .int x4, .int x5, .long y6, .null, .long y8, .null, .long y10, .null, .long q0, .null, .null, .null, .null, .null, .null] [] H Q else jm_w S 2 81 48 [.ref r0, .long y1, .null, .int x3, .int x4, .int x5, .long y6, .null, .long y8, .null, .long y10, .null, .long q0, .null, .null, .null, .null, .null, .null] [] H Q := (js1 at81_41 rfl rfl rfl).trans ((js1 at81_43 rfl rfl rfl).trans (jsif (P := x4 = 0) at81_45 rfl rfl))
theorem at81_48 : jm_at 81 48 = some (.lload 10) := by decide +kernel
theorem at81_50 : jm_at 81 50 = some (.goto 6) := by decide +kernel
theorem u81_48 {S : Option (Nat × (Nat → Int32))} {H : jm_H} {Q : Option Value → jm_H → Prop} {r0 : Nat} {y1 y6 y8 y10 y12 : Int64} {x3 x4 x5 : Int32} : jm_w S 2 81 48 [.ref r0, .long y1, .null, .int x3, .int x4, .int x5, .long y6, .null, .long y8, .null, .long y10, .null, .long y12, .null, .null, .null, .null, .null, .null] [] H Q = jm_w S 2 81 56 [.ref r0, .long y1, .null, .int x3, .int x4, .int x5, .long y6, .null, .long y8, .null, .long y10, .null, .long y12, .null, .null, .null, .null, .null, .null] [.long y10] H Q := (js1 at81_48 rfl rfl rfl).trans (js2 at81_50 rfl rfl)
theorem at81_53 : jm_at 81 53 = some (.lload 10) := by decide +kernel
theorem at81_55 : jm_at 81 55 = some (.lneg) := by decide +kernel
theorem u81_53 {S : Option (Nat × (Nat → Int32))} {H : jm_H} {Q : Option Value → jm_H → Prop} {r0 : Nat} {y1 y6 y8 y10 y12 : Int64} {x3 x4 x5 : Int32} : jm_w S 2 81 53 [.ref r0, .long y1, .null, .int x3, .int x4, .int x5, .long y6, .null, .long y8, .null, .long y10, .null, .long y12, .null, .null, .null, .null, .null, .null] [] H Q = jm_w S 2 81 56 [.ref r0, .long y1, .null, .int x3, .int x4, .int x5, .long y6, .null, .long y8, .null, .long y10, .null, .long y12, .null, .null, .null, .null, .null, .null] [.long (-y10)] H Q := (js1 at81_53 rfl rfl rfl).trans (js0 at81_55 rfl rfl rfl)
theorem at81_56 : jm_at 81 56 = some (.lstore 14) := by decide +kernel
theorem at81_58 : jm_at 81 58 = some (.iconst 0) := by decide +kernel
theorem at81_59 : jm_at 81 59 = some (.iload 5) := by decide +kernel
theorem at81_61 : jm_at 81 61 = some (.invokestatic 47) := by decide +kernel
theorem rv81i_47 : jm_rv 81 (.invokestatic 47) = (1, 74, 0, 0) := by decide +kernel
theorem u81_56 {S : Option (Nat × (Nat → Int32))} {H : jm_H} {Q : Option Value → jm_H → Prop} {r0 : Nat} {y1 y6 y8 y10 y12 q0 : Int64} {x3 x4 x5 : Int32} : jm_w S 2 81 56 [.ref r0, .long y1, .null, .int x3, .int x4, .int x5, .long y6, .null, .long y8, .null, .long y10, .null, .long y12, .null, .null, .null, .null, .null, .null] [.long q0] H Q = jm_c S 74 [.int (0 : Int32), .int x5] H (fun v G => jm_w S 2 81 64 [.ref r0, .long y1, .null, .int x3, .int x4, .int x5, .long y6, .null, .long y8, .null, .long y10, .null, .long y12, .null, .long q0, .null, .null, .null, .null] (v.toList ++ []) G Q) := (js1 at81_56 rfl rfl rfl).trans ((jsci at81_58 rfl rfl).trans ((js1 at81_59 rfl rfl rfl).trans (jscall (H := H) (as := [.int (0 : Int32), .int x5]) (q := []) at81_61 rfl rv81i_47 (jscut rfl rfl rfl (Nat.le_of_ble_eq_true rfl)) rfl (Nat.le_of_ble_eq_true rfl) rfl rfl)))
theorem at81_64 : jm_at 81 64 = some (.istore 16) := by decide +kernel
theorem u81_64 {S : Option (Nat × (Nat → Int32))} {H : jm_H} {Q : Option Value → jm_H → Prop} {r0 : Nat} {y1 y6 y8 y10 y12 y14 : Int64} {x3 x4 x5 p0 : Int32} : jm_w S 2 81 64 [.ref r0, .long y1, .null, .int x3, .int x4, .int x5, .long y6, .null, .long y8, .null, .long y10, .null, .long y12, .null, .long y14, .null, .null, .null, .null] [.int p0] H Q = jm_w S 2 81 66 [.ref r0, .long y1, .null, .int x3, .int x4, .int x5, .long y6, .null, .long y8, .null, .long y10, .null, .long y12, .null, .long y14, .null, .int p0, .null, .null] [] H Q := js1 at81_64 rfl rfl rfl
theorem at81_66 : jm_at 81 66 = some (.iload 16) := by decide +kernel
theorem at81_68 : jm_at 81 68 = some (.aload_n 0) := by decide +kernel
theorem at81_69 : jm_at 81 69 = some (.getfield 9) := by decide +kernel
theorem rv81g_9 : jm_rv 81 (.getfield 9) = (0, 7, 0, 0) := by decide +kernel
theorem at81_72 : jm_at 81 72 = some (.arraylength) := by decide +kernel
theorem at81_73 : jm_at 81 73 = some (.if_icmp .ge 47) := by decide +kernel
theorem u81_66 {S : Option (Nat × (Nat → Int32))} {H : jm_H} {Q : Option Value → jm_H → Prop} {r0 : Nat} {y1 y6 y8 y10 y12 y14 : Int64} {x3 x4 x5 x16 : Int32} {w17 : Value} (h0 : jm_tg H r0 = 8) (h1 : ¬ jm_R H r0 0 = 0) (h2 : ¬ (jm_R H r0 0) = 1) (h3 : 100 ≤ jm_tg H (jm_R H r0 0)) : jm_w S 2 81 66 [.ref r0, .long y1, .null, .int x3, .int x4, .int x5, .long y6, .null, .long y8, .null, .long y10, .null, .long y12, .null, .long y14, .null, .int x16, w17, .null] [] H Q = if (Int32.ofNat (jm_ln H (jm_R H r0 0))) ≤ x16 then jm_w S 2 81 120 [.ref r0, .long y1, .null, .int x3, .int x4, .int x5, .long y6, .null, .long y8, .null, .long y10, .null, .long y12, .null, .long y14, .null, .int x16, w17, .null] [] H Q else jm_w S 2 81 76 [.ref r0, .long y1, .null, .int x3, .int x4, .int x5, .long y6, .null, .long y8, .null, .long y10, .null, .long y12, .null, .long y14, .null, .int x16, w17, .null] [] H Q := (js1 at81_66 rfl rfl rfl).trans ((js1 at81_68 rfl rfl rfl).trans ((jsgR (H := H) at81_69 rv81g_9 rfl h0 h1 rfl).trans ((jsaln (H := H) at81_72 h2 h3 rfl).trans (jsif (P := (Int32.ofNat (jm_ln H (jm_R H r0 0))) ≤ x16) at81_73 rfl rfl))))
theorem at81_76 : jm_at 81 76 = some (.aload_n 0) := by decide +kernel
theorem at81_77 : jm_at 81 77 = some (.getfield 9) := by decide +kernel
theorem at81_80 : jm_at 81 80 = some (.iload 16) := by decide +kernel
theorem at81_82 : jm_at 81 82 = some (.laload) := by decide +kernel
theorem at81_83 : jm_at 81 83 = some (.lload 12) := by decide +kernel
theorem at81_85 : jm_at 81 85 = some (.ladd) := by decide +kernel
theorem at81_86 : jm_at 81 86 = some (.lstore 17) := by decide +kernel
theorem at81_88 : jm_at 81 88 = some (.aload_n 0) := by decide +kernel
theorem at81_89 : jm_at 81 89 = some (.getfield 9) := by decide +kernel
theorem at81_92 : jm_at 81 92 = some (.iload 16) := by decide +kernel
theorem at81_94 : jm_at 81 94 = some (.lload 17) := by decide +kernel
theorem at81_96 : jm_at 81 96 = some (.ldc2_w 45) := by decide +kernel
theorem at81_99 : jm_at 81 99 = some (.land) := by decide +kernel
theorem at81_100 : jm_at 81 100 = some (.lastore) := by decide +kernel
theorem at81_101 : jm_at 81 101 = some (.lload 17) := by decide +kernel
theorem at81_103 : jm_at 81 103 = some (.bipush 32) := by decide +kernel
theorem at81_105 : jm_at 81 105 = some (.lshr) := by decide +kernel
theorem at81_106 : jm_at 81 106 = some (.lload 14) := by decide +kernel
theorem at81_108 : jm_at 81 108 = some (.ladd) := by decide +kernel
theorem at81_109 : jm_at 81 109 = some (.lstore 12) := by decide +kernel
theorem at81_111 : jm_at 81 111 = some (.lconst 0) := by decide +kernel
theorem at81_112 : jm_at 81 112 = some (.lstore 14) := by decide +kernel
theorem at81_114 : jm_at 81 114 = some (.iinc 16 1) := by decide +kernel
theorem at81_117 : jm_at 81 117 = some (.goto (-51)) := by decide +kernel
theorem u81_76 {S : Option (Nat × (Nat → Int32))} {H : jm_H} {Q : Option Value → jm_H → Prop} {r0 : Nat} {y1 y6 y8 y10 y12 y14 : Int64} {x3 x4 x5 x16 : Int32} {w17 : Value} (h0 : jm_tg H r0 = 8) (h1 : ¬ jm_R H r0 0 = 0) (h2 : ¬ (x16 < 0 ∨ jm_ln H (jm_R H r0 0) ≤ Int32.toNatClampNeg x16)) (h3 : jm_tg H (jm_R H r0 0) = 101) : jm_w S 2 81 76 [.ref r0, .long y1, .null, .int x3, .int x4, .int x5, .long y6, .null, .long y8, .null, .long y10, .null, .long y12, .null, .long y14, .null, .int x16, w17, .null] [] H Q = jm_w S 2 81 66 [.ref r0, .long y1, .null, .int x3, .int x4, .int x5, .long y6, .null, .long y8, .null, .long y10, .null, .long ((((jm_L H (jm_R H r0 0) (Int32.toNatClampNeg x16)) + y12) >>> (Int32.toInt64 (32 : Int32) &&& 63)) + y14), .null, .long (0 : Int64), .null, .int (x16 + 1), .long ((jm_L H (jm_R H r0 0) (Int32.toNatClampNeg x16)) + y12), .null] [] (jm_pL H (jm_R H r0 0) (Int32.toNatClampNeg x16) (((jm_L H (jm_R H r0 0) (Int32.toNatClampNeg x16)) + y12) &&& (4294967295 : Int64))) Q := (js1 at81_76 rfl rfl rfl).trans ((jsgR (H := H) at81_77 rv81g_9 rfl h0 h1 rfl).trans ((js1 at81_80 rfl rfl rfl).trans ((jslal (H := H) at81_82 h3 h2 rfl).trans ((js1 at81_83 rfl rfl rfl).trans ((js0 at81_85 rfl rfl rfl).trans ((js1 at81_86 rfl rfl rfl).trans ((js1 at81_88 rfl rfl rfl).trans ((jsgR (H := H) at81_89 rv81g_9 rfl h0 h1 rfl).trans ((js1 at81_92 rfl rfl rfl).trans ((js1 at81_94 rfl rfl rfl).trans ((jsk2 at81_96 rv81l_45 rfl rfl).trans ((js0 at81_99 rfl rfl rfl).trans ((jslas (H := H) at81_100 h3 h2 rfl).trans ((js1 at81_101 rfl rfl rfl).trans ((jscb at81_103 rfl rfl).trans ((js0 at81_105 rfl rfl rfl).trans ((js1 at81_106 rfl rfl rfl).trans ((js0 at81_108 rfl rfl rfl).trans ((js1 at81_109 rfl rfl rfl).trans ((jscl at81_111 rfl rfl).trans ((js1 at81_112 rfl rfl rfl).trans ((jsinc at81_114 rfl rfl rfl).trans (js2 at81_117 rfl rfl)))))))))))))))))))))))
theorem at81_120 : jm_at 81 120 = some (.return_) := by decide +kernel
theorem u81_120 {S : Option (Nat × (Nat → Int32))} {H : jm_H} {Q : Option Value → jm_H → Prop} {r0 : Nat} {y1 y6 y8 y10 y12 y14 : Int64} {x3 x4 x5 x16 : Int32} {w17 : Value} : jm_w S 2 81 120 [.ref r0, .long y1, .null, .int x3, .int x4, .int x5, .long y6, .null, .long y8, .null, .long y10, .null, .long y12, .null, .long y14, .null, .int x16, w17, .null] [] H Q = Q none H := jsret_v at81_120 rfl
theorem en81 {S : Option (Nat × (Nat → Int32))} {H : jm_H} {Q : Option Value → jm_H → Prop} {r0 : Nat} {y1 : Int64} {x3 x4 : Int32} : jm_c S 81 [.ref r0, .long y1, .int x3, .int x4] H Q = jm_w S 2 81 0 [.ref r0, .long y1, .null, .int x3, .int x4, .null, .null, .null, .null, .null, .null, .null, .null, .null, .null, .null, .null, .null, .null] [] H Q := rfl
theorem at82_0 : jm_at 82 0 = some (.lconst 1) := by decide +kernel
theorem at82_1 : jm_at 82 1 = some (.lstore_n 1) := by decide +kernel
theorem at82_2 : jm_at 82 2 = some (.iconst 0) := by decide +kernel
theorem at82_3 : jm_at 82 3 = some (.istore_n 3) := by decide +kernel
theorem u82_0 {S : Option (Nat × (Nat → Int32))} {H : jm_H} {Q : Option Value → jm_H → Prop} {r0 : Nat} : jm_w S 1 82 0 [.ref r0, .null, .null, .null, .null, .null] [] H Q = jm_w S 1 82 4 [.ref r0, .long (1 : Int64), .null, .int (0 : Int32), .null, .null] [] H Q := (jscl at82_0 rfl rfl).trans ((js1 at82_1 rfl rfl rfl).trans ((jsci at82_2 rfl rfl).trans (js1 at82_3 rfl rfl rfl)))
theorem at82_4 : jm_at 82 4 = some (.iload_n 3) := by decide +kernel
theorem at82_5 : jm_at 82 5 = some (.aload_n 0) := by decide +kernel
theorem at82_6 : jm_at 82 6 = some (.getfield 9) := by decide +kernel
theorem rv82g_9 : jm_rv 82 (.getfield 9) = (0, 7, 0, 0) := by decide +kernel
theorem at82_9 : jm_at 82 9 = some (.arraylength) := by decide +kernel
theorem at82_10 : jm_at 82 10 = some (.if_icmp .ge 45) := by decide +kernel
theorem u82_4 {S : Option (Nat × (Nat → Int32))} {H : jm_H} {Q : Option Value → jm_H → Prop} {r0 : Nat} {y1 : Int64} {x3 : Int32} {w4 : Value} (h0 : jm_tg H r0 = 8) (h1 : ¬ jm_R H r0 0 = 0) (h2 : ¬ (jm_R H r0 0) = 1) (h3 : 100 ≤ jm_tg H (jm_R H r0 0)) : jm_w S 1 82 4 [.ref r0, .long y1, .null, .int x3, w4, .null] [] H Q = if (Int32.ofNat (jm_ln H (jm_R H r0 0))) ≤ x3 then jm_w S 1 82 55 [.ref r0, .long y1, .null, .int x3, w4, .null] [] H Q else jm_w S 1 82 13 [.ref r0, .long y1, .null, .int x3, w4, .null] [] H Q := (js1 at82_4 rfl rfl rfl).trans ((js1 at82_5 rfl rfl rfl).trans ((jsgR (H := H) at82_6 rv82g_9 rfl h0 h1 rfl).trans ((jsaln (H := H) at82_9 h2 h3 rfl).trans (jsif (P := (Int32.ofNat (jm_ln H (jm_R H r0 0))) ≤ x3) at82_10 rfl rfl))))
theorem at82_13 : jm_at 82 13 = some (.aload_n 0) := by decide +kernel
theorem at82_14 : jm_at 82 14 = some (.getfield 9) := by decide +kernel
theorem at82_17 : jm_at 82 17 = some (.iload_n 3) := by decide +kernel
theorem at82_18 : jm_at 82 18 = some (.laload) := by decide +kernel
theorem at82_19 : jm_at 82 19 = some (.ldc2_w 53) := by decide +kernel
theorem rv82l_53 : jm_rv 82 (.ldc2_w 53) = (9, 0, 0, (-1)) := by decide +kernel
theorem at82_22 : jm_at 82 22 = some (.lxor) := by decide +kernel
theorem at82_23 : jm_at 82 23 = some (.ldc2_w 45) := by decide +kernel
theorem rv82l_45 : jm_rv 82 (.ldc2_w 45) = (9, 0, 0, 4294967295) := by decide +kernel
theorem at82_26 : jm_at 82 26 = some (.land) := by decide +kernel
theorem at82_27 : jm_at 82 27 = some (.lload_n 1) := by decide +kernel
theorem at82_28 : jm_at 82 28 = some (.ladd) := by decide +kernel
theorem at82_29 : jm_at 82 29 = some (.lstore 4) := by decide +kernel
theorem at82_31 : jm_at 82 31 = some (.aload_n 0) := by decide +kernel
theorem at82_32 : jm_at 82 32 = some (.getfield 9) := by decide +kernel
theorem at82_35 : jm_at 82 35 = some (.iload_n 3) := by decide +kernel
theorem at82_36 : jm_at 82 36 = some (.lload 4) := by decide +kernel
theorem at82_38 : jm_at 82 38 = some (.ldc2_w 45) := by decide +kernel
theorem at82_41 : jm_at 82 41 = some (.land) := by decide +kernel
theorem at82_42 : jm_at 82 42 = some (.lastore) := by decide +kernel
theorem at82_43 : jm_at 82 43 = some (.lload 4) := by decide +kernel
theorem at82_45 : jm_at 82 45 = some (.bipush 32) := by decide +kernel
theorem at82_47 : jm_at 82 47 = some (.lshr) := by decide +kernel
theorem at82_48 : jm_at 82 48 = some (.lstore_n 1) := by decide +kernel
theorem at82_49 : jm_at 82 49 = some (.iinc 3 1) := by decide +kernel
theorem at82_52 : jm_at 82 52 = some (.goto (-48)) := by decide +kernel
theorem u82_13 {S : Option (Nat × (Nat → Int32))} {H : jm_H} {Q : Option Value → jm_H → Prop} {r0 : Nat} {y1 : Int64} {x3 : Int32} {w4 : Value} (h0 : jm_tg H r0 = 8) (h1 : ¬ jm_R H r0 0 = 0) (h2 : ¬ (x3 < 0 ∨ jm_ln H (jm_R H r0 0) ≤ Int32.toNatClampNeg x3)) (h3 : jm_tg H (jm_R H r0 0) = 101) : jm_w S 1 82 13 [.ref r0, .long y1, .null, .int x3, w4, .null] [] H Q = jm_w S 1 82 4 [.ref r0, .long (((((jm_L H (jm_R H r0 0) (Int32.toNatClampNeg x3)) ^^^ (-1 : Int64)) &&& (4294967295 : Int64)) + y1) >>> (Int32.toInt64 (32 : Int32) &&& 63)), .null, .int (x3 + 1), .long ((((jm_L H (jm_R H r0 0) (Int32.toNatClampNeg x3)) ^^^ (-1 : Int64)) &&& (4294967295 : Int64)) + y1), .null] [] (jm_pL H (jm_R H r0 0) (Int32.toNatClampNeg x3) (((((jm_L H (jm_R H r0 0) (Int32.toNatClampNeg x3)) ^^^ (-1 : Int64)) &&& (4294967295 : Int64)) + y1) &&& (4294967295 : Int64))) Q := (js1 at82_13 rfl rfl rfl).trans ((jsgR (H := H) at82_14 rv82g_9 rfl h0 h1 rfl).trans ((js1 at82_17 rfl rfl rfl).trans ((jslal (H := H) at82_18 h3 h2 rfl).trans ((jsk2 at82_19 rv82l_53 rfl rfl).trans ((js0 at82_22 rfl rfl rfl).trans ((jsk2 at82_23 rv82l_45 rfl rfl).trans ((js0 at82_26 rfl rfl rfl).trans ((js1 at82_27 rfl rfl rfl).trans ((js0 at82_28 rfl rfl rfl).trans ((js1 at82_29 rfl rfl rfl).trans ((js1 at82_31 rfl rfl rfl).trans ((jsgR (H := H) at82_32 rv82g_9 rfl h0 h1 rfl).trans ((js1 at82_35 rfl rfl rfl).trans ((js1 at82_36 rfl rfl rfl).trans ((jsk2 at82_38 rv82l_45 rfl rfl).trans ((js0 at82_41 rfl rfl rfl).trans ((jslas (H := H) at82_42 h3 h2 rfl).trans ((js1 at82_43 rfl rfl rfl).trans ((jscb at82_45 rfl rfl).trans ((js0 at82_47 rfl rfl rfl).trans ((js1 at82_48 rfl rfl rfl).trans ((jsinc at82_49 rfl rfl rfl).trans (js2 at82_52 rfl rfl)))))))))))))))))))))))
theorem at82_55 : jm_at 82 55 = some (.return_) := by decide +kernel
theorem u82_55 {S : Option (Nat × (Nat → Int32))} {H : jm_H} {Q : Option Value → jm_H → Prop} {r0 : Nat} {y1 : Int64} {x3 : Int32} {w4 : Value} : jm_w S 1 82 55 [.ref r0, .long y1, .null, .int x3, w4, .null] [] H Q = Q none H := jsret_v at82_55 rfl
theorem en82 {S : Option (Nat × (Nat → Int32))} {H : jm_H} {Q : Option Value → jm_H → Prop} {r0 : Nat} : jm_c S 82 [.ref r0] H Q = jm_w S 1 82 0 [.ref r0, .null, .null, .null, .null, .null] [] H Q := rfl
theorem at83_0 : jm_at 83 0 = some (.aload_n 0) := by decide +kernel
theorem at83_1 : jm_at 83 1 = some (.getfield 17) := by decide +kernel
theorem rv83g_17 : jm_rv 83 (.getfield 17) = (0, 7, 2, 0) := by decide +kernel
theorem at83_4 : jm_at 83 4 = some (.ifCond .eq 8) := by decide +kernel
theorem u83_0 {S : Option (Nat × (Nat → Int32))} {H : jm_H} {Q : Option Value → jm_H → Prop} {r0 r1 : Nat} (h0 : jm_tg H r0 = 8) : jm_w S 5 83 0 [.ref r0, .ref r1, .null, .null, .null, .null, .null] [] H Q = if (jm_I H r0 2) = 0 then jm_w S 5 83 12 [.ref r0, .ref r1, .null, .null, .null, .null, .null] [] H Q else jm_w S 5 83 7 [.ref r0, .ref r1, .null, .null, .null, .null, .null] [] H Q := (js1 at83_0 rfl rfl rfl).trans ((jsgI (H := H) at83_1 rv83g_17 (Or.inr rfl) h0 rfl).trans (jsif (P := (jm_I H r0 2) = 0) at83_4 rfl rfl))
theorem at83_7 : jm_at 83 7 = some (.aload_n 1) := by decide +kernel
theorem at83_8 : jm_at 83 8 = some (.invokevirtual 63) := by decide +kernel
theorem rv83i_63 : jm_rv 83 (.invokevirtual 63) = (2, 70, 0, 0) := by decide +kernel
theorem u83_7 {S : Option (Nat × (Nat → Int32))} {H : jm_H} {Q : Option Value → jm_H → Prop} {r0 r1 : Nat} (h0 : jm_tg H r1 = 3) : jm_w S 5 83 7 [.ref r0, .ref r1, .null, .null, .null, .null, .null] [] H Q = jm_c S 70 [.ref r1] H (fun v G => jm_w S 5 83 11 [.ref r0, .ref r1, .null, .null, .null, .null, .null] (v.toList ++ []) G Q) := (js1 at83_7 rfl rfl rfl).trans (jscall (H := H) (as := [.ref r1]) (q := []) at83_8 rfl rv83i_63 (jscutV rfl rfl rfl (Nat.le_of_ble_eq_true rfl) rfl h0) rfl (Nat.le_of_ble_eq_true rfl) rfl rfl)
theorem at83_11 : jm_at 83 11 = some (.return_) := by decide +kernel
theorem u83_11 {S : Option (Nat × (Nat → Int32))} {H : jm_H} {Q : Option Value → jm_H → Prop} {r0 r1 : Nat} : jm_w S 5 83 11 [.ref r0, .ref r1, .null, .null, .null, .null, .null] [] H Q = Q none H := jsret_v at83_11 rfl
theorem at83_12 : jm_at 83 12 = some (.aload_n 0) := by decide +kernel
theorem at83_13 : jm_at 83 13 = some (.invokevirtual 20) := by decide +kernel
theorem rv83i_20 : jm_rv 83 (.invokevirtual 20) = (2, 84, 0, 0) := by decide +kernel
theorem u83_12 {S : Option (Nat × (Nat → Int32))} {H : jm_H} {Q : Option Value → jm_H → Prop} {r0 r1 : Nat} (h0 : jm_tg H r0 = 8) : jm_w S 5 83 12 [.ref r0, .ref r1, .null, .null, .null, .null, .null] [] H Q = jm_c S 84 [.ref r0] H (fun v G => jm_w S 5 83 16 [.ref r0, .ref r1, .null, .null, .null, .null, .null] (v.toList ++ []) G Q) := (js1 at83_12 rfl rfl rfl).trans (jscall (H := H) (as := [.ref r0]) (q := []) at83_13 rfl rv83i_20 (jscutV rfl rfl rfl (Nat.le_of_ble_eq_true rfl) rfl h0) rfl (Nat.le_of_ble_eq_true rfl) rfl rfl)
theorem at83_16 : jm_at 83 16 = some (.istore_n 2) := by decide +kernel
theorem at83_17 : jm_at 83 17 = some (.iconst 0) := by decide +kernel
theorem at83_18 : jm_at 83 18 = some (.iload_n 2) := by decide +kernel
theorem at83_19 : jm_at 83 19 = some (.bipush 45) := by decide +kernel
theorem at83_21 : jm_at 83 21 = some (.isub) := by decide +kernel
theorem at83_22 : jm_at 83 22 = some (.iconst 1) := by decide +kernel
theorem at83_23 : jm_at 83 23 = some (.iadd) := by decide +kernel
theorem at83_24 : jm_at 83 24 = some (.invokestatic 47) := by decide +kernel
theorem rv83i_47 : jm_rv 83 (.invokestatic 47) = (1, 74, 0, 0) := by decide +kernel
theorem u83_16 {S : Option (Nat × (Nat → Int32))} {H : jm_H} {Q : Option Value → jm_H → Prop} {r0 r1 : Nat} {p0 : Int32} : jm_w S 5 83 16 [.ref r0, .ref r1, .null, .null, .null, .null, .null] [.int p0] H Q = jm_c S 74 [.int (0 : Int32), .int ((p0 - (45 : Int32)) + (1 : Int32))] H (fun v G => jm_w S 5 83 27 [.ref r0, .ref r1, .int p0, .null, .null, .null, .null] (v.toList ++ []) G Q) := (js1 at83_16 rfl rfl rfl).trans ((jsci at83_17 rfl rfl).trans ((js1 at83_18 rfl rfl rfl).trans ((jscb at83_19 rfl rfl).trans ((js0 at83_21 rfl rfl rfl).trans ((jsci at83_22 rfl rfl).trans ((js0 at83_23 rfl rfl rfl).trans (jscall (H := H) (as := [.int (0 : Int32), .int ((p0 - (45 : Int32)) + (1 : Int32))]) (q := []) at83_24 rfl rv83i_47 (jscut rfl rfl rfl (Nat.le_of_ble_eq_true rfl)) rfl (Nat.le_of_ble_eq_true rfl) rfl rfl)))))))
theorem at83_27 : jm_at 83 27 = some (.istore_n 3) := by decide +kernel
theorem at83_28 : jm_at 83 28 = some (.lconst 0) := by decide +kernel
theorem at83_29 : jm_at 83 29 = some (.lstore 4) := by decide +kernel
theorem at83_31 : jm_at 83 31 = some (.iload_n 2) := by decide +kernel
theorem at83_32 : jm_at 83 32 = some (.istore 6) := by decide +kernel
theorem u83_27 {S : Option (Nat × (Nat → Int32))} {H : jm_H} {Q : Option Value → jm_H → Prop} {r0 r1 : Nat} {x2 p0 : Int32} : jm_w S 5 83 27 [.ref r0, .ref r1, .int x2, .null, .null, .null, .null] [.int p0] H Q = jm_w S 5 83 34 [.ref r0, .ref r1, .int x2, .int p0, .long (0 : Int64), .null, .int x2] [] H Q := (js1 at83_27 rfl rfl rfl).trans ((jscl at83_28 rfl rfl).trans ((js1 at83_29 rfl rfl rfl).trans ((js1 at83_31 rfl rfl rfl).trans (js1 at83_32 rfl rfl rfl))))
theorem at83_34 : jm_at 83 34 = some (.iload 6) := by decide +kernel
theorem at83_36 : jm_at 83 36 = some (.iload_n 3) := by decide +kernel
theorem at83_37 : jm_at 83 37 = some (.if_icmp .lt 23) := by decide +kernel
theorem u83_34 {S : Option (Nat × (Nat → Int32))} {H : jm_H} {Q : Option Value → jm_H → Prop} {r0 r1 : Nat} {x2 x3 x6 : Int32} {y4 : Int64} : jm_w S 5 83 34 [.ref r0, .ref r1, .int x2, .int x3, .long y4, .null, .int x6] [] H Q = if x6 < x3 then jm_w S 5 83 60 [.ref r0, .ref r1, .int x2, .int x3, .long y4, .null, .int x6] [] H Q else jm_w S 5 83 40 [.ref r0, .ref r1, .int x2, .int x3, .long y4, .null, .int x6] [] H Q := (js1 at83_34 rfl rfl rfl).trans ((js1 at83_36 rfl rfl rfl).trans (jsif (P := x6 < x3) at83_37 rfl rfl))
theorem at83_40 : jm_at 83 40 = some (.lload 4) := by decide +kernel
theorem at83_42 : jm_at 83 42 = some (.iconst 1) := by decide +kernel
theorem at83_43 : jm_at 83 43 = some (.lshl) := by decide +kernel
theorem at83_44 : jm_at 83 44 = some (.aload_n 0) := by decide +kernel
theorem at83_45 : jm_at 83 45 = some (.iload 6) := by decide +kernel
theorem at83_47 : jm_at 83 47 = some (.invokevirtual 59) := by decide +kernel
theorem rv83i_59 : jm_rv 83 (.invokevirtual 59) = (2, 85, 0, 0) := by decide +kernel
theorem u83_40 {S : Option (Nat × (Nat → Int32))} {H : jm_H} {Q : Option Value → jm_H → Prop} {r0 r1 : Nat} {x2 x3 x6 : Int32} {y4 : Int64} (h0 : jm_tg H r0 = 8) : jm_w S 5 83 40 [.ref r0, .ref r1, .int x2, .int x3, .long y4, .null, .int x6] [] H Q = jm_c S 85 [.ref r0, .int x6] H (fun v G => jm_w S 5 83 50 [.ref r0, .ref r1, .int x2, .int x3, .long y4, .null, .int x6] (v.toList ++ [.long (y4 <<< (Int32.toInt64 (1 : Int32) &&& 63))]) G Q) := (js1 at83_40 rfl rfl rfl).trans ((jsci at83_42 rfl rfl).trans ((js0 at83_43 rfl rfl rfl).trans ((js1 at83_44 rfl rfl rfl).trans ((js1 at83_45 rfl rfl rfl).trans (jscall (H := H) (as := [.ref r0, .int x6]) (q := [.long (y4 <<< (Int32.toInt64 (1 : Int32) &&& 63))]) at83_47 rfl rv83i_59 (jscutV rfl rfl rfl (Nat.le_of_ble_eq_true rfl) rfl h0) rfl (Nat.le_of_ble_eq_true rfl) rfl rfl)))))
theorem at83_50 : jm_at 83 50 = some (.i2l) := by decide +kernel
theorem at83_51 : jm_at 83 51 = some (.lor) := by decide +kernel
theorem at83_52 : jm_at 83 52 = some (.lstore 4) := by decide +kernel
theorem at83_54 : jm_at 83 54 = some (.iinc 6 (-1)) := by decide +kernel
theorem at83_57 : jm_at 83 57 = some (.goto (-23)) := by decide +kernel
theorem u83_50 {S : Option (Nat × (Nat → Int32))} {H : jm_H} {Q : Option Value → jm_H → Prop} {r0 r1 : Nat} {x2 x3 x6 p1 : Int32} {y4 q0 : Int64} : jm_w S 5 83 50 [.ref r0, .ref r1, .int x2, .int x3, .long y4, .null, .int x6] [.int p1, .long q0] H Q = jm_w S 5 83 34 [.ref r0, .ref r1, .int x2, .int x3, .long (q0 ||| (Int32.toInt64 p1)), .null, .int (x6 + (-1))] [] H Q := (js0 at83_50 rfl rfl rfl).trans ((js0 at83_51 rfl rfl rfl).trans ((js1 at83_52 rfl rfl rfl).trans ((jsinc at83_54 rfl rfl rfl).trans (js2 at83_57 rfl rfl))))
theorem at83_60 : jm_at 83 60 = some (.aload_n 1) := by decide +kernel
theorem at83_61 : jm_at 83 61 = some (.aload_n 0) := by decide +kernel
theorem at83_62 : jm_at 83 62 = some (.getfield 13) := by decide +kernel
theorem rv83g_13 : jm_rv 83 (.getfield 13) = (0, 7, 1, 0) := by decide +kernel
theorem at83_65 : jm_at 83 65 = some (.ifCond .eq 7) := by decide +kernel
theorem u83_60 {S : Option (Nat × (Nat → Int32))} {H : jm_H} {Q : Option Value → jm_H → Prop} {r0 r1 : Nat} {x2 x3 x6 : Int32} {y4 : Int64} (h0 : jm_tg H r0 = 8) : jm_w S 5 83 60 [.ref r0, .ref r1, .int x2, .int x3, .long y4, .null, .int x6] [] H Q = if (jm_I H r0 1) = 0 then jm_w S 5 83 72 [.ref r0, .ref r1, .int x2, .int x3, .long y4, .null, .int x6] [.ref r1] H Q else jm_w S 5 83 68 [.ref r0, .ref r1, .int x2, .int x3, .long y4, .null, .int x6] [.ref r1] H Q := (js1 at83_60 rfl rfl rfl).trans ((js1 at83_61 rfl rfl rfl).trans ((jsgI (H := H) at83_62 rv83g_13 (Or.inr rfl) h0 rfl).trans (jsif (P := (jm_I H r0 1) = 0) at83_65 rfl rfl)))
theorem at83_68 : jm_at 83 68 = some (.iconst (-1)) := by decide +kernel
theorem at83_69 : jm_at 83 69 = some (.goto 4) := by decide +kernel
theorem u83_68 {S : Option (Nat × (Nat → Int32))} {H : jm_H} {Q : Option Value → jm_H → Prop} {r0 r1 o0 : Nat} {x2 x3 x6 : Int32} {y4 : Int64} : jm_w S 5 83 68 [.ref r0, .ref r1, .int x2, .int x3, .long y4, .null, .int x6] [.ref o0] H Q = jm_w S 5 83 73 [.ref r0, .ref r1, .int x2, .int x3, .long y4, .null, .int x6] [.int (-1 : Int32), .ref o0] H Q := (jsci at83_68 rfl rfl).trans (js2 at83_69 rfl rfl)
theorem at83_72 : jm_at 83 72 = some (.iconst 1) := by decide +kernel
theorem u83_72 {S : Option (Nat × (Nat → Int32))} {H : jm_H} {Q : Option Value → jm_H → Prop} {r0 r1 o0 : Nat} {x2 x3 x6 : Int32} {y4 : Int64} : jm_w S 5 83 72 [.ref r0, .ref r1, .int x2, .int x3, .long y4, .null, .int x6] [.ref o0] H Q = jm_w S 5 83 73 [.ref r0, .ref r1, .int x2, .int x3, .long y4, .null, .int x6] [.int (1 : Int32), .ref o0] H Q := jsci at83_72 rfl rfl
theorem at83_73 : jm_at 83 73 = some (.lload 4) := by decide +kernel
theorem at83_75 : jm_at 83 75 = some (.aload_n 0) := by decide +kernel
theorem at83_76 : jm_at 83 76 = some (.iload_n 3) := by decide +kernel
theorem at83_77 : jm_at 83 77 = some (.invokevirtual 66) := by decide +kernel
theorem rv83i_66 : jm_rv 83 (.invokevirtual 66) = (2, 86, 0, 0) := by decide +kernel
theorem u83_73 {S : Option (Nat × (Nat → Int32))} {H : jm_H} {Q : Option Value → jm_H → Prop} {r0 r1 o0 : Nat} {x2 x3 x6 p1 : Int32} {y4 : Int64} (h0 : jm_tg H r0 = 8) : jm_w S 5 83 73 [.ref r0, .ref r1, .int x2, .int x3, .long y4, .null, .int x6] [.int p1, .ref o0] H Q = jm_c S 86 [.ref r0, .int x3] H (fun v G => jm_w S 5 83 80 [.ref r0, .ref r1, .int x2, .int x3, .long y4, .null, .int x6] (v.toList ++ [.long y4, .int p1, .ref o0]) G Q) := (js1 at83_73 rfl rfl rfl).trans ((js1 at83_75 rfl rfl rfl).trans ((js1 at83_76 rfl rfl rfl).trans (jscall (H := H) (as := [.ref r0, .int x3]) (q := [.long y4, .int p1, .ref o0]) at83_77 rfl rv83i_66 (jscutV rfl rfl rfl (Nat.le_of_ble_eq_true rfl) rfl h0) rfl (Nat.le_of_ble_eq_true rfl) rfl rfl)))
theorem at83_80 : jm_at 83 80 = some (.ifCond .eq 7) := by decide +kernel
theorem u83_80 {S : Option (Nat × (Nat → Int32))} {H : jm_H} {Q : Option Value → jm_H → Prop} {r0 r1 o0 : Nat} {x2 x3 x6 p1 p3 : Int32} {y4 q2 : Int64} : jm_w S 5 83 80 [.ref r0, .ref r1, .int x2, .int x3, .long y4, .null, .int x6] [.int p3, .long q2, .int p1, .ref o0] H Q = if p3 = 0 then jm_w S 5 83 87 [.ref r0, .ref r1, .int x2, .int x3, .long y4, .null, .int x6] [.long q2, .int p1, .ref o0] H Q else jm_w S 5 83 83 [.ref r0, .ref r1, .int x2, .int x3, .long y4, .null, .int x6] [.long q2, .int p1, .ref o0] H Q := jsif (P := p3 = 0) at83_80 rfl rfl
theorem at83_83 : jm_at 83 83 = some (.iconst 1) := by decide +kernel
theorem at83_84 : jm_at 83 84 = some (.goto 4) := by decide +kernel
theorem u83_83 {S : Option (Nat × (Nat → Int32))} {H : jm_H} {Q : Option Value → jm_H → Prop} {r0 r1 o0 : Nat} {x2 x3 x6 p1 : Int32} {y4 q2 : Int64} : jm_w S 5 83 83 [.ref r0, .ref r1, .int x2, .int x3, .long y4, .null, .int x6] [.long q2, .int p1, .ref o0] H Q = jm_w S 5 83 88 [.ref r0, .ref r1, .int x2, .int x3, .long y4, .null, .int x6] [.int (1 : Int32), .long q2, .int p1, .ref o0] H Q := (jsci at83_83 rfl rfl).trans (js2 at83_84 rfl rfl)
theorem at83_87 : jm_at 83 87 = some (.iconst 0) := by decide +kernel
theorem u83_87 {S : Option (Nat × (Nat → Int32))} {H : jm_H} {Q : Option Value → jm_H → Prop} {r0 r1 o0 : Nat} {x2 x3 x6 p1 : Int32} {y4 q2 : Int64} : jm_w S 5 83 87 [.ref r0, .ref r1, .int x2, .int x3, .long y4, .null, .int x6] [.long q2, .int p1, .ref o0] H Q = jm_w S 5 83 88 [.ref r0, .ref r1, .int x2, .int x3, .long y4, .null, .int x6] [.int (0 : Int32), .long q2, .int p1, .ref o0] H Q := jsci at83_87 rfl rfl
theorem at83_88 : jm_at 83 88 = some (.i2l) := by decide +kernel
theorem at83_89 : jm_at 83 89 = some (.lor) := by decide +kernel
theorem at83_90 : jm_at 83 90 = some (.iload_n 3) := by decide +kernel
theorem at83_91 : jm_at 83 91 = some (.bipush (-96)) := by decide +kernel
theorem at83_93 : jm_at 83 93 = some (.iadd) := by decide +kernel
theorem at83_94 : jm_at 83 94 = some (.invokevirtual 70) := by decide +kernel
theorem rv83i_70 : jm_rv 83 (.invokevirtual 70) = (2, 48, 0, 0) := by decide +kernel
theorem u83_88 {S : Option (Nat × (Nat → Int32))} {H : jm_H} {Q : Option Value → jm_H → Prop} {r0 r1 o0 : Nat} {x2 x3 x6 p1 p3 : Int32} {y4 q2 : Int64} (h0 : jm_tg H o0 = 3) : jm_w S 5 83 88 [.ref r0, .ref r1, .int x2, .int x3, .long y4, .null, .int x6] [.int p3, .long q2, .int p1, .ref o0] H Q = jm_c S 48 [.ref o0, .int p1, .long (q2 ||| (Int32.toInt64 p3)), .int (x3 + (-96 : Int32))] H (fun v G => jm_w S 5 83 97 [.ref r0, .ref r1, .int x2, .int x3, .long y4, .null, .int x6] (v.toList ++ []) G Q) := (js0 at83_88 rfl rfl rfl).trans ((js0 at83_89 rfl rfl rfl).trans ((js1 at83_90 rfl rfl rfl).trans ((jscb at83_91 rfl rfl).trans ((js0 at83_93 rfl rfl rfl).trans (jscall (H := H) (as := [.ref o0, .int p1, .long (q2 ||| (Int32.toInt64 p3)), .int (x3 + (-96 : Int32))]) (q := []) at83_94 rfl rv83i_70 (jscutV rfl rfl rfl (Nat.le_of_ble_eq_true rfl) rfl h0) rfl (Nat.le_of_ble_eq_true rfl) rfl rfl)))))
theorem at83_97 : jm_at 83 97 = some (.return_) := by decide +kernel
theorem u83_97 {S : Option (Nat × (Nat → Int32))} {H : jm_H} {Q : Option Value → jm_H → Prop} {r0 r1 : Nat} {x2 x3 x6 : Int32} {y4 : Int64} : jm_w S 5 83 97 [.ref r0, .ref r1, .int x2, .int x3, .long y4, .null, .int x6] [] H Q = Q none H := jsret_v at83_97 rfl
theorem en83 {S : Option (Nat × (Nat → Int32))} {H : jm_H} {Q : Option Value → jm_H → Prop} {r0 r1 : Nat} : jm_c S 83 [.ref r0, .ref r1] H Q = jm_w S 5 83 0 [.ref r0, .ref r1, .null, .null, .null, .null, .null] [] H Q := rfl
theorem at84_0 : jm_at 84 0 = some (.aload_n 0) := by decide +kernel
theorem at84_1 : jm_at 84 1 = some (.getfield 9) := by decide +kernel
theorem rv84g_9 : jm_rv 84 (.getfield 9) = (0, 7, 0, 0) := by decide +kernel
theorem at84_4 : jm_at 84 4 = some (.arraylength) := by decide +kernel
theorem at84_5 : jm_at 84 5 = some (.iconst 1) := by decide +kernel
theorem at84_6 : jm_at 84 6 = some (.isub) := by decide +kernel
theorem at84_7 : jm_at 84 7 = some (.istore_n 1) := by decide +kernel
theorem u84_0 {S : Option (Nat × (Nat → Int32))} {H : jm_H} {Q : Option Value → jm_H → Prop} {r0 : Nat} (h0 : jm_tg H r0 = 8) (h1 : ¬ jm_R H r0 0 = 0) (h2 : ¬ (jm_R H r0 0) = 1) (h3 : 100 ≤ jm_tg H (jm_R H r0 0)) : jm_w S 4 84 0 [.ref r0, .null] [] H Q = jm_w S 4 84 8 [.ref r0, .int ((Int32.ofNat (jm_ln H (jm_R H r0 0))) - (1 : Int32))] [] H Q := (js1 at84_0 rfl rfl rfl).trans ((jsgR (H := H) at84_1 rv84g_9 rfl h0 h1 rfl).trans ((jsaln (H := H) at84_4 h2 h3 rfl).trans ((jsci at84_5 rfl rfl).trans ((js0 at84_6 rfl rfl rfl).trans (js1 at84_7 rfl rfl rfl)))))
theorem at84_8 : jm_at 84 8 = some (.iload_n 1) := by decide +kernel
theorem at84_9 : jm_at 84 9 = some (.ifCond .lt 37) := by decide +kernel
theorem u84_8 {S : Option (Nat × (Nat → Int32))} {H : jm_H} {Q : Option Value → jm_H → Prop} {r0 : Nat} {x1 : Int32} : jm_w S 4 84 8 [.ref r0, .int x1] [] H Q = if x1 < 0 then jm_w S 4 84 46 [.ref r0, .int x1] [] H Q else jm_w S 4 84 12 [.ref r0, .int x1] [] H Q := (js1 at84_8 rfl rfl rfl).trans (jsif (P := x1 < 0) at84_9 rfl rfl)
theorem at84_12 : jm_at 84 12 = some (.aload_n 0) := by decide +kernel
theorem at84_13 : jm_at 84 13 = some (.getfield 9) := by decide +kernel
theorem at84_16 : jm_at 84 16 = some (.iload_n 1) := by decide +kernel
theorem at84_17 : jm_at 84 17 = some (.laload) := by decide +kernel
theorem at84_18 : jm_at 84 18 = some (.lconst 0) := by decide +kernel
theorem at84_19 : jm_at 84 19 = some (.lcmp) := by decide +kernel
theorem at84_20 : jm_at 84 20 = some (.ifCond .eq 20) := by decide +kernel
theorem u84_12 {S : Option (Nat × (Nat → Int32))} {H : jm_H} {Q : Option Value → jm_H → Prop} {r0 : Nat} {x1 : Int32} (h0 : jm_tg H r0 = 8) (h1 : ¬ jm_R H r0 0 = 0) (h2 : ¬ (x1 < 0 ∨ jm_ln H (jm_R H r0 0) ≤ Int32.toNatClampNeg x1)) (h3 : jm_tg H (jm_R H r0 0) = 101) : jm_w S 4 84 12 [.ref r0, .int x1] [] H Q = if (lg_cmp (jm_L H (jm_R H r0 0) (Int32.toNatClampNeg x1)) (0 : Int64)) = 0 then jm_w S 4 84 40 [.ref r0, .int x1] [] H Q else jm_w S 4 84 23 [.ref r0, .int x1] [] H Q := (js1 at84_12 rfl rfl rfl).trans ((jsgR (H := H) at84_13 rv84g_9 rfl h0 h1 rfl).trans ((js1 at84_16 rfl rfl rfl).trans ((jslal (H := H) at84_17 h3 h2 rfl).trans ((jscl at84_18 rfl rfl).trans ((js0 at84_19 rfl rfl rfl).trans (jsif (P := (lg_cmp (jm_L H (jm_R H r0 0) (Int32.toNatClampNeg x1)) (0 : Int64)) = 0) at84_20 rfl rfl))))))
theorem at84_23 : jm_at 84 23 = some (.iload_n 1) := by decide +kernel
theorem at84_24 : jm_at 84 24 = some (.bipush 32) := by decide +kernel
theorem at84_26 : jm_at 84 26 = some (.imul) := by decide +kernel
theorem at84_27 : jm_at 84 27 = some (.aload_n 0) := by decide +kernel
theorem at84_28 : jm_at 84 28 = some (.getfield 9) := by decide +kernel
theorem at84_31 : jm_at 84 31 = some (.iload_n 1) := by decide +kernel
theorem at84_32 : jm_at 84 32 = some (.laload) := by decide +kernel
theorem at84_33 : jm_at 84 33 = some (.invokestatic 55) := by decide +kernel
theorem rv84i_55 : jm_rv 84 (.invokestatic 55) = (1, 53, 0, 0) := by decide +kernel
theorem u84_23 {S : Option (Nat × (Nat → Int32))} {H : jm_H} {Q : Option Value → jm_H → Prop} {r0 : Nat} {x1 : Int32} (h0 : jm_tg H r0 = 8) (h1 : ¬ jm_R H r0 0 = 0) (h2 : ¬ (x1 < 0 ∨ jm_ln H (jm_R H r0 0) ≤ Int32.toNatClampNeg x1)) (h3 : jm_tg H (jm_R H r0 0) = 101) : jm_w S 4 84 23 [.ref r0, .int x1] [] H Q = jm_c S 53 [.long (jm_L H (jm_R H r0 0) (Int32.toNatClampNeg x1))] H (fun v G => jm_w S 4 84 36 [.ref r0, .int x1] (v.toList ++ [.int (x1 * (32 : Int32))]) G Q) := (js1 at84_23 rfl rfl rfl).trans ((jscb at84_24 rfl rfl).trans ((js0 at84_26 rfl rfl rfl).trans ((js1 at84_27 rfl rfl rfl).trans ((jsgR (H := H) at84_28 rv84g_9 rfl h0 h1 rfl).trans ((js1 at84_31 rfl rfl rfl).trans ((jslal (H := H) at84_32 h3 h2 rfl).trans (jscall (H := H) (as := [.long (jm_L H (jm_R H r0 0) (Int32.toNatClampNeg x1))]) (q := [.int (x1 * (32 : Int32))]) at84_33 rfl rv84i_55 (jscut rfl rfl rfl (Nat.le_of_ble_eq_true rfl)) rfl (Nat.le_of_ble_eq_true rfl) rfl rfl)))))))
theorem at84_36 : jm_at 84 36 = some (.iadd) := by decide +kernel
theorem at84_37 : jm_at 84 37 = some (.iconst 1) := by decide +kernel
theorem at84_38 : jm_at 84 38 = some (.isub) := by decide +kernel
theorem at84_39 : jm_at 84 39 = some (.ireturn) := by decide +kernel
theorem u84_36 {S : Option (Nat × (Nat → Int32))} {H : jm_H} {Q : Option Value → jm_H → Prop} {r0 : Nat} {x1 p0 p1 : Int32} : jm_w S 4 84 36 [.ref r0, .int x1] [.int p1, .int p0] H Q = Q (some (.int ((p0 + p1) - (1 : Int32)))) H := (js0 at84_36 rfl rfl rfl).trans ((jsci at84_37 rfl rfl).trans ((js0 at84_38 rfl rfl rfl).trans (jsret_i at84_39 rfl)))
theorem at84_40 : jm_at 84 40 = some (.iinc 1 (-1)) := by decide +kernel
theorem at84_43 : jm_at 84 43 = some (.goto (-35)) := by decide +kernel
theorem u84_40 {S : Option (Nat × (Nat → Int32))} {H : jm_H} {Q : Option Value → jm_H → Prop} {r0 : Nat} {x1 : Int32} : jm_w S 4 84 40 [.ref r0, .int x1] [] H Q = jm_w S 4 84 8 [.ref r0, .int (x1 + (-1))] [] H Q := (jsinc at84_40 rfl rfl rfl).trans (js2 at84_43 rfl rfl)
theorem at84_46 : jm_at 84 46 = some (.iconst (-1)) := by decide +kernel
theorem at84_47 : jm_at 84 47 = some (.ireturn) := by decide +kernel
theorem u84_46 {S : Option (Nat × (Nat → Int32))} {H : jm_H} {Q : Option Value → jm_H → Prop} {r0 : Nat} {x1 : Int32} : jm_w S 4 84 46 [.ref r0, .int x1] [] H Q = Q (some (.int (-1 : Int32))) H := (jsci at84_46 rfl rfl).trans (jsret_i at84_47 rfl)
theorem en84 {S : Option (Nat × (Nat → Int32))} {H : jm_H} {Q : Option Value → jm_H → Prop} {r0 : Nat} : jm_c S 84 [.ref r0] H Q = jm_w S 4 84 0 [.ref r0, .null] [] H Q := rfl
theorem at85_0 : jm_at 85 0 = some (.iload_n 1) := by decide +kernel
theorem at85_1 : jm_at 85 1 = some (.ifCond .lt 15) := by decide +kernel
theorem u85_0 {S : Option (Nat × (Nat → Int32))} {H : jm_H} {Q : Option Value → jm_H → Prop} {r0 : Nat} {x1 : Int32} : jm_w S 1 85 0 [.ref r0, .int x1] [] H Q = if x1 < 0 then jm_w S 1 85 16 [.ref r0, .int x1] [] H Q else jm_w S 1 85 4 [.ref r0, .int x1] [] H Q := (js1 at85_0 rfl rfl rfl).trans (jsif (P := x1 < 0) at85_1 rfl rfl)
theorem at85_4 : jm_at 85 4 = some (.iload_n 1) := by decide +kernel
theorem at85_5 : jm_at 85 5 = some (.aload_n 0) := by decide +kernel
theorem at85_6 : jm_at 85 6 = some (.getfield 9) := by decide +kernel
theorem rv85g_9 : jm_rv 85 (.getfield 9) = (0, 7, 0, 0) := by decide +kernel
theorem at85_9 : jm_at 85 9 = some (.arraylength) := by decide +kernel
theorem at85_10 : jm_at 85 10 = some (.bipush 32) := by decide +kernel
theorem at85_12 : jm_at 85 12 = some (.imul) := by decide +kernel
theorem at85_13 : jm_at 85 13 = some (.if_icmp .lt 5) := by decide +kernel
theorem u85_4 {S : Option (Nat × (Nat → Int32))} {H : jm_H} {Q : Option Value → jm_H → Prop} {r0 : Nat} {x1 : Int32} (h0 : jm_tg H r0 = 8) (h1 : ¬ jm_R H r0 0 = 0) (h2 : ¬ (jm_R H r0 0) = 1) (h3 : 100 ≤ jm_tg H (jm_R H r0 0)) : jm_w S 1 85 4 [.ref r0, .int x1] [] H Q = if x1 < ((Int32.ofNat (jm_ln H (jm_R H r0 0))) * (32 : Int32)) then jm_w S 1 85 18 [.ref r0, .int x1] [] H Q else jm_w S 1 85 16 [.ref r0, .int x1] [] H Q := (js1 at85_4 rfl rfl rfl).trans ((js1 at85_5 rfl rfl rfl).trans ((jsgR (H := H) at85_6 rv85g_9 rfl h0 h1 rfl).trans ((jsaln (H := H) at85_9 h2 h3 rfl).trans ((jscb at85_10 rfl rfl).trans ((js0 at85_12 rfl rfl rfl).trans (jsif (P := x1 < ((Int32.ofNat (jm_ln H (jm_R H r0 0))) * (32 : Int32))) at85_13 rfl rfl))))))
theorem at85_16 : jm_at 85 16 = some (.iconst 0) := by decide +kernel
theorem at85_17 : jm_at 85 17 = some (.ireturn) := by decide +kernel
theorem u85_16 {S : Option (Nat × (Nat → Int32))} {H : jm_H} {Q : Option Value → jm_H → Prop} {r0 : Nat} {x1 : Int32} : jm_w S 1 85 16 [.ref r0, .int x1] [] H Q = Q (some (.int (0 : Int32))) H := (jsci at85_16 rfl rfl).trans (jsret_i at85_17 rfl)
theorem at85_18 : jm_at 85 18 = some (.aload_n 0) := by decide +kernel
theorem at85_19 : jm_at 85 19 = some (.getfield 9) := by decide +kernel
theorem at85_22 : jm_at 85 22 = some (.iload_n 1) := by decide +kernel
theorem at85_23 : jm_at 85 23 = some (.iconst 5) := by decide +kernel
theorem at85_24 : jm_at 85 24 = some (.ishr) := by decide +kernel
theorem at85_25 : jm_at 85 25 = some (.laload) := by decide +kernel
theorem at85_26 : jm_at 85 26 = some (.iload_n 1) := by decide +kernel
theorem at85_27 : jm_at 85 27 = some (.bipush 31) := by decide +kernel
theorem at85_29 : jm_at 85 29 = some (.iand) := by decide +kernel
theorem at85_30 : jm_at 85 30 = some (.lshr) := by decide +kernel
theorem at85_31 : jm_at 85 31 = some (.lconst 1) := by decide +kernel
theorem at85_32 : jm_at 85 32 = some (.land) := by decide +kernel
theorem at85_33 : jm_at 85 33 = some (.l2i) := by decide +kernel
theorem at85_34 : jm_at 85 34 = some (.ireturn) := by decide +kernel
theorem u85_18 {S : Option (Nat × (Nat → Int32))} {H : jm_H} {Q : Option Value → jm_H → Prop} {r0 : Nat} {x1 : Int32} (h0 : jm_tg H r0 = 8) (h1 : ¬ jm_R H r0 0 = 0) (h2 : ¬ ((x1 >>> ((5 : Int32) &&& 31)) < 0 ∨ jm_ln H (jm_R H r0 0) ≤ Int32.toNatClampNeg (x1 >>> ((5 : Int32) &&& 31)))) (h3 : jm_tg H (jm_R H r0 0) = 101) : jm_w S 1 85 18 [.ref r0, .int x1] [] H Q = Q (some (.int (Int64.toInt32 (((jm_L H (jm_R H r0 0) (Int32.toNatClampNeg (x1 >>> ((5 : Int32) &&& 31)))) >>> (Int32.toInt64 (x1 &&& (31 : Int32)) &&& 63)) &&& (1 : Int64))))) H := (js1 at85_18 rfl rfl rfl).trans ((jsgR (H := H) at85_19 rv85g_9 rfl h0 h1 rfl).trans ((js1 at85_22 rfl rfl rfl).trans ((jsci at85_23 rfl rfl).trans ((js0 at85_24 rfl rfl rfl).trans ((jslal (H := H) at85_25 h3 h2 rfl).trans ((js1 at85_26 rfl rfl rfl).trans ((jscb at85_27 rfl rfl).trans ((js0 at85_29 rfl rfl rfl).trans ((js0 at85_30 rfl rfl rfl).trans ((jscl at85_31 rfl rfl).trans ((js0 at85_32 rfl rfl rfl).trans ((js0 at85_33 rfl rfl rfl).trans (jsret_i at85_34 rfl)))))))))))))
theorem en85 {S : Option (Nat × (Nat → Int32))} {H : jm_H} {Q : Option Value → jm_H → Prop} {r0 : Nat} {x1 : Int32} : jm_c S 85 [.ref r0, .int x1] H Q = jm_w S 1 85 0 [.ref r0, .int x1] [] H Q := rfl
theorem at86_0 : jm_at 86 0 = some (.iconst 0) := by decide +kernel
theorem at86_1 : jm_at 86 1 = some (.istore_n 2) := by decide +kernel
theorem u86_0 {S : Option (Nat × (Nat → Int32))} {H : jm_H} {Q : Option Value → jm_H → Prop} {r0 : Nat} {x1 : Int32} : jm_w S 2 86 0 [.ref r0, .int x1, .null] [] H Q = jm_w S 2 86 2 [.ref r0, .int x1, .int (0 : Int32)] [] H Q := (jsci at86_0 rfl rfl).trans (js1 at86_1 rfl rfl rfl)
theorem at86_2 : jm_at 86 2 = some (.iload_n 2) := by decide +kernel
theorem at86_3 : jm_at 86 3 = some (.iload_n 1) := by decide +kernel
theorem at86_4 : jm_at 86 4 = some (.if_icmp .ge 32) := by decide +kernel
theorem u86_2 {S : Option (Nat × (Nat → Int32))} {H : jm_H} {Q : Option Value → jm_H → Prop} {r0 : Nat} {x1 x2 : Int32} : jm_w S 2 86 2 [.ref r0, .int x1, .int x2] [] H Q = if x1 ≤ x2 then jm_w S 2 86 36 [.ref r0, .int x1, .int x2] [] H Q else jm_w S 2 86 7 [.ref r0, .int x1, .int x2] [] H Q := (js1 at86_2 rfl rfl rfl).trans ((js1 at86_3 rfl rfl rfl).trans (jsif (P := x1 ≤ x2) at86_4 rfl rfl))
theorem at86_7 : jm_at 86 7 = some (.iload_n 2) := by decide +kernel
theorem at86_8 : jm_at 86 8 = some (.aload_n 0) := by decide +kernel
theorem at86_9 : jm_at 86 9 = some (.getfield 9) := by decide +kernel
theorem rv86g_9 : jm_rv 86 (.getfield 9) = (0, 7, 0, 0) := by decide +kernel
theorem at86_12 : jm_at 86 12 = some (.arraylength) := by decide +kernel
theorem at86_13 : jm_at 86 13 = some (.bipush 32) := by decide +kernel
theorem at86_15 : jm_at 86 15 = some (.imul) := by decide +kernel
theorem at86_16 : jm_at 86 16 = some (.if_icmp .ge 20) := by decide +kernel
theorem u86_7 {S : Option (Nat × (Nat → Int32))} {H : jm_H} {Q : Option Value → jm_H → Prop} {r0 : Nat} {x1 x2 : Int32} (h0 : jm_tg H r0 = 8) (h1 : ¬ jm_R H r0 0 = 0) (h2 : ¬ (jm_R H r0 0) = 1) (h3 : 100 ≤ jm_tg H (jm_R H r0 0)) : jm_w S 2 86 7 [.ref r0, .int x1, .int x2] [] H Q = if ((Int32.ofNat (jm_ln H (jm_R H r0 0))) * (32 : Int32)) ≤ x2 then jm_w S 2 86 36 [.ref r0, .int x1, .int x2] [] H Q else jm_w S 2 86 19 [.ref r0, .int x1, .int x2] [] H Q := (js1 at86_7 rfl rfl rfl).trans ((js1 at86_8 rfl rfl rfl).trans ((jsgR (H := H) at86_9 rv86g_9 rfl h0 h1 rfl).trans ((jsaln (H := H) at86_12 h2 h3 rfl).trans ((jscb at86_13 rfl rfl).trans ((js0 at86_15 rfl rfl rfl).trans (jsif (P := ((Int32.ofNat (jm_ln H (jm_R H r0 0))) * (32 : Int32)) ≤ x2) at86_16 rfl rfl))))))
theorem at86_19 : jm_at 86 19 = some (.aload_n 0) := by decide +kernel
theorem at86_20 : jm_at 86 20 = some (.iload_n 2) := by decide +kernel
theorem at86_21 : jm_at 86 21 = some (.invokevirtual 59) := by decide +kernel
theorem rv86i_59 : jm_rv 86 (.invokevirtual 59) = (2, 85, 0, 0) := by decide +kernel
theorem u86_19 {S : Option (Nat × (Nat → Int32))} {H : jm_H} {Q : Option Value → jm_H → Prop} {r0 : Nat} {x1 x2 : Int32} (h0 : jm_tg H r0 = 8) : jm_w S 2 86 19 [.ref r0, .int x1, .int x2] [] H Q = jm_c S 85 [.ref r0, .int x2] H (fun v G => jm_w S 2 86 24 [.ref r0, .int x1, .int x2] (v.toList ++ []) G Q) := (js1 at86_19 rfl rfl rfl).trans ((js1 at86_20 rfl rfl rfl).trans (jscall (H := H) (as := [.ref r0, .int x2]) (q := []) at86_21 rfl rv86i_59 (jscutV rfl rfl rfl (Nat.le_of_ble_eq_true rfl) rfl h0) rfl (Nat.le_of_ble_eq_true rfl) rfl rfl))
theorem at86_24 : jm_at 86 24 = some (.iconst 1) := by decide +kernel
theorem at86_25 : jm_at 86 25 = some (.if_icmp .ne 5) := by decide +kernel
theorem u86_24 {S : Option (Nat × (Nat → Int32))} {H : jm_H} {Q : Option Value → jm_H → Prop} {r0 : Nat} {x1 x2 p0 : Int32} : jm_w S 2 86 24 [.ref r0, .int x1, .int x2] [.int p0] H Q = if ¬ p0 = (1 : Int32) then jm_w S 2 86 30 [.ref r0, .int x1, .int x2] [] H Q else jm_w S 2 86 28 [.ref r0, .int x1, .int x2] [] H Q := (jsci at86_24 rfl rfl).trans (jsif (P := ¬ p0 = (1 : Int32)) at86_25 rfl rfl)
theorem at86_28 : jm_at 86 28 = some (.iconst 1) := by decide +kernel
theorem at86_29 : jm_at 86 29 = some (.ireturn) := by decide +kernel
theorem u86_28 {S : Option (Nat × (Nat → Int32))} {H : jm_H} {Q : Option Value → jm_H → Prop} {r0 : Nat} {x1 x2 : Int32} : jm_w S 2 86 28 [.ref r0, .int x1, .int x2] [] H Q = Q (some (.int (1 : Int32))) H := (jsci at86_28 rfl rfl).trans (jsret_z at86_29 rfl (by decide))
theorem at86_30 : jm_at 86 30 = some (.iinc 2 1) := by decide +kernel
theorem at86_33 : jm_at 86 33 = some (.goto (-31)) := by decide +kernel
theorem u86_30 {S : Option (Nat × (Nat → Int32))} {H : jm_H} {Q : Option Value → jm_H → Prop} {r0 : Nat} {x1 x2 : Int32} : jm_w S 2 86 30 [.ref r0, .int x1, .int x2] [] H Q = jm_w S 2 86 2 [.ref r0, .int x1, .int (x2 + 1)] [] H Q := (jsinc at86_30 rfl rfl rfl).trans (js2 at86_33 rfl rfl)
theorem at86_36 : jm_at 86 36 = some (.iconst 0) := by decide +kernel
theorem at86_37 : jm_at 86 37 = some (.ireturn) := by decide +kernel
theorem u86_36 {S : Option (Nat × (Nat → Int32))} {H : jm_H} {Q : Option Value → jm_H → Prop} {r0 : Nat} {x1 x2 : Int32} : jm_w S 2 86 36 [.ref r0, .int x1, .int x2] [] H Q = Q (some (.int (0 : Int32))) H := (jsci at86_36 rfl rfl).trans (jsret_z at86_37 rfl (by decide))
theorem en86 {S : Option (Nat × (Nat → Int32))} {H : jm_H} {Q : Option Value → jm_H → Prop} {r0 : Nat} {x1 : Int32} : jm_c S 86 [.ref r0, .int x1] H Q = jm_w S 2 86 0 [.ref r0, .int x1, .null] [] H Q := rfl
theorem at97_0 : jm_at 97 0 = some (.iconst 0) := by decide +kernel
theorem at97_1 : jm_at 97 1 = some (.istore_n 2) := by decide +kernel
theorem u97_0 {S : Option (Nat × (Nat → Int32))} {H : jm_H} {Q : Option Value → jm_H → Prop} {r0 r1 : Nat} : jm_w S 1 97 0 [.ref r0, .ref r1, .null] [] H Q = jm_w S 1 97 2 [.ref r0, .ref r1, .int (0 : Int32)] [] H Q := (jsci at97_0 rfl rfl).trans (js1 at97_1 rfl rfl rfl)
theorem at97_2 : jm_at 97 2 = some (.iload_n 2) := by decide +kernel
theorem at97_3 : jm_at 97 3 = some (.aload_n 0) := by decide +kernel
theorem at97_4 : jm_at 97 4 = some (.getfield 9) := by decide +kernel
theorem rv97g_9 : jm_rv 97 (.getfield 9) = (0, 7, 0, 0) := by decide +kernel
theorem at97_7 : jm_at 97 7 = some (.arraylength) := by decide +kernel
theorem at97_8 : jm_at 97 8 = some (.if_icmp .ge 30) := by decide +kernel
theorem u97_2 {S : Option (Nat × (Nat → Int32))} {H : jm_H} {Q : Option Value → jm_H → Prop} {r0 r1 : Nat} {x2 : Int32} (h0 : jm_tg H r0 = 8) (h1 : ¬ jm_R H r0 0 = 0) (h2 : ¬ (jm_R H r0 0) = 1) (h3 : 100 ≤ jm_tg H (jm_R H r0 0)) : jm_w S 1 97 2 [.ref r0, .ref r1, .int x2] [] H Q = if (Int32.ofNat (jm_ln H (jm_R H r0 0))) ≤ x2 then jm_w S 1 97 38 [.ref r0, .ref r1, .int x2] [] H Q else jm_w S 1 97 11 [.ref r0, .ref r1, .int x2] [] H Q := (js1 at97_2 rfl rfl rfl).trans ((js1 at97_3 rfl rfl rfl).trans ((jsgR (H := H) at97_4 rv97g_9 rfl h0 h1 rfl).trans ((jsaln (H := H) at97_7 h2 h3 rfl).trans (jsif (P := (Int32.ofNat (jm_ln H (jm_R H r0 0))) ≤ x2) at97_8 rfl rfl))))
theorem at97_11 : jm_at 97 11 = some (.iload_n 2) := by decide +kernel
theorem at97_12 : jm_at 97 12 = some (.aload_n 1) := by decide +kernel
theorem at97_13 : jm_at 97 13 = some (.getfield 9) := by decide +kernel
theorem at97_16 : jm_at 97 16 = some (.arraylength) := by decide +kernel
theorem at97_17 : jm_at 97 17 = some (.if_icmp .ge 21) := by decide +kernel
theorem u97_11 {S : Option (Nat × (Nat → Int32))} {H : jm_H} {Q : Option Value → jm_H → Prop} {r0 r1 : Nat} {x2 : Int32} (h0 : jm_tg H r1 = 8) (h1 : ¬ jm_R H r1 0 = 0) (h2 : ¬ (jm_R H r1 0) = 1) (h3 : 100 ≤ jm_tg H (jm_R H r1 0)) : jm_w S 1 97 11 [.ref r0, .ref r1, .int x2] [] H Q = if (Int32.ofNat (jm_ln H (jm_R H r1 0))) ≤ x2 then jm_w S 1 97 38 [.ref r0, .ref r1, .int x2] [] H Q else jm_w S 1 97 20 [.ref r0, .ref r1, .int x2] [] H Q := (js1 at97_11 rfl rfl rfl).trans ((js1 at97_12 rfl rfl rfl).trans ((jsgR (H := H) at97_13 rv97g_9 rfl h0 h1 rfl).trans ((jsaln (H := H) at97_16 h2 h3 rfl).trans (jsif (P := (Int32.ofNat (jm_ln H (jm_R H r1 0))) ≤ x2) at97_17 rfl rfl))))
theorem at97_20 : jm_at 97 20 = some (.aload_n 0) := by decide +kernel
theorem at97_21 : jm_at 97 21 = some (.getfield 9) := by decide +kernel
theorem at97_24 : jm_at 97 24 = some (.iload_n 2) := by decide +kernel
theorem at97_25 : jm_at 97 25 = some (.aload_n 1) := by decide +kernel
theorem at97_26 : jm_at 97 26 = some (.getfield 9) := by decide +kernel
theorem at97_29 : jm_at 97 29 = some (.iload_n 2) := by decide +kernel
theorem at97_30 : jm_at 97 30 = some (.laload) := by decide +kernel
theorem at97_31 : jm_at 97 31 = some (.lastore) := by decide +kernel
theorem at97_32 : jm_at 97 32 = some (.iinc 2 1) := by decide +kernel
theorem at97_35 : jm_at 97 35 = some (.goto (-33)) := by decide +kernel
theorem u97_20 {S : Option (Nat × (Nat → Int32))} {H : jm_H} {Q : Option Value → jm_H → Prop} {r0 r1 : Nat} {x2 : Int32} (h0 : jm_tg H r0 = 8) (h1 : ¬ jm_R H r0 0 = 0) (h2 : jm_tg H r1 = 8) (h3 : ¬ jm_R H r1 0 = 0) (h4 : ¬ (x2 < 0 ∨ jm_ln H (jm_R H r1 0) ≤ Int32.toNatClampNeg x2)) (h5 : jm_tg H (jm_R H r1 0) = 101) (h6 : ¬ (x2 < 0 ∨ jm_ln H (jm_R H r0 0) ≤ Int32.toNatClampNeg x2)) (h7 : jm_tg H (jm_R H r0 0) = 101) : jm_w S 1 97 20 [.ref r0, .ref r1, .int x2] [] H Q = jm_w S 1 97 2 [.ref r0, .ref r1, .int (x2 + 1)] [] (jm_pL H (jm_R H r0 0) (Int32.toNatClampNeg x2) (jm_L H (jm_R H r1 0) (Int32.toNatClampNeg x2))) Q := (js1 at97_20 rfl rfl rfl).trans ((jsgR (H := H) at97_21 rv97g_9 rfl h0 h1 rfl).trans ((js1 at97_24 rfl rfl rfl).trans ((js1 at97_25 rfl rfl rfl).trans ((jsgR (H := H) at97_26 rv97g_9 rfl h2 h3 rfl).trans ((js1 at97_29 rfl rfl rfl).trans ((jslal (H := H) at97_30 h5 h4 rfl).trans ((jslas (H := H) at97_31 h7 h6 rfl).trans ((jsinc at97_32 rfl rfl rfl).trans (js2 at97_35 rfl rfl)))))))))
theorem at97_38 : jm_at 97 38 = some (.aload_n 0) := by decide +kernel
theorem at97_39 : jm_at 97 39 = some (.aload_n 1) := by decide +kernel
theorem at97_40 : jm_at 97 40 = some (.getfield 13) := by decide +kernel
theorem rv97g_13 : jm_rv 97 (.getfield 13) = (0, 7, 1, 0) := by decide +kernel
theorem at97_43 : jm_at 97 43 = some (.putfield 13) := by decide +kernel
theorem rv97p_13 : jm_rv 97 (.putfield 13) = (0, 7, 1, 0) := by decide +kernel
theorem at97_46 : jm_at 97 46 = some (.aload_n 0) := by decide +kernel
theorem at97_47 : jm_at 97 47 = some (.aload_n 1) := by decide +kernel
theorem at97_48 : jm_at 97 48 = some (.getfield 17) := by decide +kernel
theorem rv97g_17 : jm_rv 97 (.getfield 17) = (0, 7, 2, 0) := by decide +kernel
theorem at97_51 : jm_at 97 51 = some (.putfield 17) := by decide +kernel
theorem rv97p_17 : jm_rv 97 (.putfield 17) = (0, 7, 2, 0) := by decide +kernel
theorem at97_54 : jm_at 97 54 = some (.return_) := by decide +kernel
theorem u97_38 {S : Option (Nat × (Nat → Int32))} {H : jm_H} {Q : Option Value → jm_H → Prop} {r0 r1 : Nat} {x2 : Int32} (h0 : jm_tg H r1 = 8) (h1 : jm_tg H r0 = 8) (h2 : (jm_I H r1 1) = 0 ∨ (jm_I H r1 1) = 1) (h3 : (jm_I (jm_pI H r0 1 (jm_I H r1 1)) r1 2) = 0 ∨ (jm_I (jm_pI H r0 1 (jm_I H r1 1)) r1 2) = 1) : jm_w S 1 97 38 [.ref r0, .ref r1, .int x2] [] H Q = Q none (jm_pI (jm_pI H r0 1 (jm_I H r1 1)) r0 2 (jm_I (jm_pI H r0 1 (jm_I H r1 1)) r1 2)) := (js1 at97_38 rfl rfl rfl).trans ((js1 at97_39 rfl rfl rfl).trans ((jsgI (H := H) at97_40 rv97g_13 (Or.inr rfl) h0 rfl).trans ((jspZ (H := H) at97_43 rv97p_13 rfl h1 h2 rfl).trans ((js1 at97_46 rfl rfl rfl).trans ((js1 at97_47 rfl rfl rfl).trans ((jsgI (H := (jm_pI H r0 1 (jm_I H r1 1))) at97_48 rv97g_17 (Or.inr rfl) h0 rfl).trans ((jspZ (H := (jm_pI H r0 1 (jm_I H r1 1))) at97_51 rv97p_17 rfl h1 h3 rfl).trans (jsret_v at97_54 rfl))))))))
theorem en97 {S : Option (Nat × (Nat → Int32))} {H : jm_H} {Q : Option Value → jm_H → Prop} {r0 r1 : Nat} : jm_c S 97 [.ref r0, .ref r1] H Q = jm_w S 1 97 0 [.ref r0, .ref r1, .null] [] H Q := rfl
theorem at101_0 : jm_at 101 0 = some (.aload_n 0) := by decide +kernel
theorem at101_1 : jm_at 101 1 = some (.invokevirtual 20) := by decide +kernel
theorem rv101i_20 : jm_rv 101 (.invokevirtual 20) = (2, 84, 0, 0) := by decide +kernel
theorem u101_0 {S : Option (Nat × (Nat → Int32))} {H : jm_H} {Q : Option Value → jm_H → Prop} {r0 : Nat} (h0 : jm_tg H r0 = 8) : jm_w S 5 101 0 [.ref r0] [] H Q = jm_c S 84 [.ref r0] H (fun v G => jm_w S 5 101 4 [.ref r0] (v.toList ++ []) G Q) := (js1 at101_0 rfl rfl rfl).trans (jscall (H := H) (as := [.ref r0]) (q := []) at101_1 rfl rv101i_20 (jscutV rfl rfl rfl (Nat.le_of_ble_eq_true rfl) rfl h0) rfl (Nat.le_of_ble_eq_true rfl) rfl rfl)
theorem at101_4 : jm_at 101 4 = some (.ifCond .ge 7) := by decide +kernel
theorem u101_4 {S : Option (Nat × (Nat → Int32))} {H : jm_H} {Q : Option Value → jm_H → Prop} {r0 : Nat} {p0 : Int32} : jm_w S 5 101 4 [.ref r0] [.int p0] H Q = if 0 ≤ p0 then jm_w S 5 101 11 [.ref r0] [] H Q else jm_w S 5 101 7 [.ref r0] [] H Q := jsif (P := 0 ≤ p0) at101_4 rfl rfl
theorem at101_7 : jm_at 101 7 = some (.iconst 0) := by decide +kernel
theorem at101_8 : jm_at 101 8 = some (.goto 15) := by decide +kernel
theorem u101_7 {S : Option (Nat × (Nat → Int32))} {H : jm_H} {Q : Option Value → jm_H → Prop} {r0 : Nat} : jm_w S 5 101 7 [.ref r0] [] H Q = jm_w S 5 101 23 [.ref r0] [.int (0 : Int32)] H Q := (jsci at101_7 rfl rfl).trans (js2 at101_8 rfl rfl)
theorem at101_11 : jm_at 101 11 = some (.aload_n 0) := by decide +kernel
theorem at101_12 : jm_at 101 12 = some (.getfield 13) := by decide +kernel
theorem rv101g_13 : jm_rv 101 (.getfield 13) = (0, 7, 1, 0) := by decide +kernel
theorem at101_15 : jm_at 101 15 = some (.ifCond .eq 7) := by decide +kernel
theorem u101_11 {S : Option (Nat × (Nat → Int32))} {H : jm_H} {Q : Option Value → jm_H → Prop} {r0 : Nat} (h0 : jm_tg H r0 = 8) : jm_w S 5 101 11 [.ref r0] [] H Q = if (jm_I H r0 1) = 0 then jm_w S 5 101 22 [.ref r0] [] H Q else jm_w S 5 101 18 [.ref r0] [] H Q := (js1 at101_11 rfl rfl rfl).trans ((jsgI (H := H) at101_12 rv101g_13 (Or.inr rfl) h0 rfl).trans (jsif (P := (jm_I H r0 1) = 0) at101_15 rfl rfl))
theorem at101_18 : jm_at 101 18 = some (.iconst (-1)) := by decide +kernel
theorem at101_19 : jm_at 101 19 = some (.goto 4) := by decide +kernel
theorem u101_18 {S : Option (Nat × (Nat → Int32))} {H : jm_H} {Q : Option Value → jm_H → Prop} {r0 : Nat} : jm_w S 5 101 18 [.ref r0] [] H Q = jm_w S 5 101 23 [.ref r0] [.int (-1 : Int32)] H Q := (jsci at101_18 rfl rfl).trans (js2 at101_19 rfl rfl)
theorem at101_22 : jm_at 101 22 = some (.iconst 1) := by decide +kernel
theorem u101_22 {S : Option (Nat × (Nat → Int32))} {H : jm_H} {Q : Option Value → jm_H → Prop} {r0 : Nat} : jm_w S 5 101 22 [.ref r0] [] H Q = jm_w S 5 101 23 [.ref r0] [.int (1 : Int32)] H Q := jsci at101_22 rfl rfl
theorem at101_23 : jm_at 101 23 = some (.ireturn) := by decide +kernel
theorem u101_23 {S : Option (Nat × (Nat → Int32))} {H : jm_H} {Q : Option Value → jm_H → Prop} {r0 : Nat} {p0 : Int32} : jm_w S 5 101 23 [.ref r0] [.int p0] H Q = Q (some (.int p0)) H := jsret_i at101_23 rfl
theorem en101 {S : Option (Nat × (Nat → Int32))} {H : jm_H} {Q : Option Value → jm_H → Prop} {r0 : Nat} : jm_c S 101 [.ref r0] H Q = jm_w S 5 101 0 [.ref r0] [] H Q := rfl
theorem at146_0 : jm_at 146 0 = some (.aload_n 0) := by decide +kernel
theorem at146_1 : jm_at 146 1 = some (.iload_n 1) := by decide +kernel
theorem at146_2 : jm_at 146 2 = some (.bipush (-96)) := by decide +kernel
theorem at146_4 : jm_at 146 4 = some (.isub) := by decide +kernel
theorem at146_5 : jm_at 146 5 = some (.invokevirtual 59) := by decide +kernel
theorem rv146i_59 : jm_rv 146 (.invokevirtual 59) = (2, 85, 0, 0) := by decide +kernel
theorem u146_0 {S : Option (Nat × (Nat → Int32))} {H : jm_H} {Q : Option Value → jm_H → Prop} {r0 : Nat} {x1 : Int32} (h0 : jm_tg H r0 = 8) : jm_w S 2 146 0 [.ref r0, .int x1] [] H Q = jm_c S 85 [.ref r0, .int (x1 - (-96 : Int32))] H (fun v G => jm_w S 2 146 8 [.ref r0, .int x1] (v.toList ++ []) G Q) := (js1 at146_0 rfl rfl rfl).trans ((js1 at146_1 rfl rfl rfl).trans ((jscb at146_2 rfl rfl).trans ((js0 at146_4 rfl rfl rfl).trans (jscall (H := H) (as := [.ref r0, .int (x1 - (-96 : Int32))]) (q := []) at146_5 rfl rv146i_59 (jscutV rfl rfl rfl (Nat.le_of_ble_eq_true rfl) rfl h0) rfl (Nat.le_of_ble_eq_true rfl) rfl rfl))))
theorem at146_8 : jm_at 146 8 = some (.ireturn) := by decide +kernel
theorem u146_8 {S : Option (Nat × (Nat → Int32))} {H : jm_H} {Q : Option Value → jm_H → Prop} {r0 : Nat} {x1 p0 : Int32} : jm_w S 2 146 8 [.ref r0, .int x1] [.int p0] H Q = Q (some (.int p0)) H := jsret_i at146_8 rfl
theorem en146 {S : Option (Nat × (Nat → Int32))} {H : jm_H} {Q : Option Value → jm_H → Prop} {r0 : Nat} {x1 : Int32} : jm_c S 146 [.ref r0, .int x1] H Q = jm_w S 2 146 0 [.ref r0, .int x1] [] H Q := rfl
theorem at153_0 : jm_at 153 0 = some (.aload_n 0) := by decide +kernel
theorem at153_1 : jm_at 153 1 = some (.invokevirtual 20) := by decide +kernel
theorem rv153i_20 : jm_rv 153 (.invokevirtual 20) = (2, 84, 0, 0) := by decide +kernel
theorem u153_0 {S : Option (Nat × (Nat → Int32))} {H : jm_H} {Q : Option Value → jm_H → Prop} {r0 : Nat} (h0 : jm_tg H r0 = 8) : jm_w S 5 153 0 [.ref r0] [] H Q = jm_c S 84 [.ref r0] H (fun v G => jm_w S 5 153 4 [.ref r0] (v.toList ++ []) G Q) := (js1 at153_0 rfl rfl rfl).trans (jscall (H := H) (as := [.ref r0]) (q := []) at153_1 rfl rv153i_20 (jscutV rfl rfl rfl (Nat.le_of_ble_eq_true rfl) rfl h0) rfl (Nat.le_of_ble_eq_true rfl) rfl rfl)
theorem at153_4 : jm_at 153 4 = some (.bipush (-96)) := by decide +kernel
theorem at153_6 : jm_at 153 6 = some (.iadd) := by decide +kernel
theorem at153_7 : jm_at 153 7 = some (.ireturn) := by decide +kernel
theorem u153_4 {S : Option (Nat × (Nat → Int32))} {H : jm_H} {Q : Option Value → jm_H → Prop} {r0 : Nat} {p0 : Int32} : jm_w S 5 153 4 [.ref r0] [.int p0] H Q = Q (some (.int (p0 + (-96 : Int32)))) H := (jscb at153_4 rfl rfl).trans ((js0 at153_6 rfl rfl rfl).trans (jsret_i at153_7 rfl))
theorem en153 {S : Option (Nat × (Nat → Int32))} {H : jm_H} {Q : Option Value → jm_H → Prop} {r0 : Nat} : jm_c S 153 [.ref r0] H Q = jm_w S 5 153 0 [.ref r0] [] H Q := rfl
theorem at96_0 : jm_at 96 0 = some (.aload_n 0) := by decide +kernel
theorem at96_1 : jm_at 96 1 = some (.getfield 10) := by decide +kernel
theorem rv96g_10 : jm_rv 96 (.getfield 10) = (0, 6, 0, 0) := by decide +kernel
theorem at96_4 : jm_at 96 4 = some (.aload_n 1) := by decide +kernel
theorem at96_5 : jm_at 96 5 = some (.getfield 10) := by decide +kernel
theorem at96_8 : jm_at 96 8 = some (.invokevirtual 23) := by decide +kernel
theorem rv96i_23 : jm_rv 96 (.invokevirtual 23) = (2, 97, 0, 0) := by decide +kernel
theorem u96_0 {S : Option (Nat × (Nat → Int32))} {H : jm_H} {Q : Option Value → jm_H → Prop} {r0 r1 : Nat} (h0 : jm_tg H r0 = 7) (h1 : ¬ jm_R H r0 0 = 0) (h2 : jm_tg H r1 = 7) (h3 : ¬ jm_R H r1 0 = 0) (h4 : jm_tg H (jm_R H r0 0) = 8) : jm_w S 2 96 0 [.ref r0, .ref r1] [] H Q = jm_c S 97 [.ref (jm_R H r0 0), .ref (jm_R H r1 0)] H (fun v G => jm_w S 2 96 11 [.ref r0, .ref r1] (v.toList ++ []) G Q) := (js1 at96_0 rfl rfl rfl).trans ((jsgR (H := H) at96_1 rv96g_10 rfl h0 h1 rfl).trans ((js1 at96_4 rfl rfl rfl).trans ((jsgR (H := H) at96_5 rv96g_10 rfl h2 h3 rfl).trans (jscall (H := H) (as := [.ref (jm_R H r0 0), .ref (jm_R H r1 0)]) (q := []) at96_8 rfl rv96i_23 (jscutV rfl rfl rfl (Nat.le_of_ble_eq_true rfl) rfl h4) rfl (Nat.le_of_ble_eq_true rfl) rfl rfl))))
theorem at96_11 : jm_at 96 11 = some (.aload_n 0) := by decide +kernel
theorem at96_12 : jm_at 96 12 = some (.aload_n 1) := by decide +kernel
theorem at96_13 : jm_at 96 13 = some (.getfield 16) := by decide +kernel
theorem rv96g_16 : jm_rv 96 (.getfield 16) = (0, 6, 1, 0) := by decide +kernel
theorem at96_16 : jm_at 96 16 = some (.putfield 16) := by decide +kernel
theorem rv96p_16 : jm_rv 96 (.putfield 16) = (0, 6, 1, 0) := by decide +kernel
theorem at96_19 : jm_at 96 19 = some (.aload_n 0) := by decide +kernel
theorem at96_20 : jm_at 96 20 = some (.aload_n 1) := by decide +kernel
theorem at96_21 : jm_at 96 21 = some (.getfield 20) := by decide +kernel
theorem rv96g_20 : jm_rv 96 (.getfield 20) = (0, 6, 2, 0) := by decide +kernel
theorem at96_24 : jm_at 96 24 = some (.putfield 20) := by decide +kernel
theorem rv96p_20 : jm_rv 96 (.putfield 20) = (0, 6, 2, 0) := by decide +kernel
theorem at96_27 : jm_at 96 27 = some (.return_) := by decide +kernel
theorem u96_11 {S : Option (Nat × (Nat → Int32))} {H : jm_H} {Q : Option Value → jm_H → Prop} {r0 r1 : Nat} (h0 : jm_tg H r1 = 7) (h1 : jm_tg H r0 = 7) : jm_w S 2 96 11 [.ref r0, .ref r1] [] H Q = Q none (jm_pI (jm_pI H r0 1 (jm_I H r1 1)) r0 2 (jm_I (jm_pI H r0 1 (jm_I H r1 1)) r1 2)) := (js1 at96_11 rfl rfl rfl).trans ((js1 at96_12 rfl rfl rfl).trans ((jsgI (H := H) at96_13 rv96g_16 (Or.inl rfl) h0 rfl).trans ((jspI (H := H) at96_16 rv96p_16 rfl h1 rfl).trans ((js1 at96_19 rfl rfl rfl).trans ((js1 at96_20 rfl rfl rfl).trans ((jsgI (H := (jm_pI H r0 1 (jm_I H r1 1))) at96_21 rv96g_20 (Or.inl rfl) h0 rfl).trans ((jspI (H := (jm_pI H r0 1 (jm_I H r1 1))) at96_24 rv96p_20 rfl h1 rfl).trans (jsret_v at96_27 rfl))))))))
theorem en96 {S : Option (Nat × (Nat → Int32))} {H : jm_H} {Q : Option Value → jm_H → Prop} {r0 r1 : Nat} : jm_c S 96 [.ref r0, .ref r1] H Q = jm_w S 2 96 0 [.ref r0, .ref r1] [] H Q := rfl
theorem at14_0 : jm_at 14 0 = some (.bipush 24) := by decide +kernel
theorem at14_2 : jm_at 14 2 = some (.istore_n 2) := by decide +kernel
theorem u14_0 {S : Option (Nat × (Nat → Int32))} {H : jm_H} {Q : Option Value → jm_H → Prop} {r0 : Nat} {x1 : Int32} : jm_w S 1 14 0 [.ref r0, .int x1, .null] [] H Q = jm_w S 1 14 3 [.ref r0, .int x1, .int (24 : Int32)] [] H Q := (jscb at14_0 rfl rfl).trans (js1 at14_2 rfl rfl rfl)
theorem at14_3 : jm_at 14 3 = some (.iload_n 2) := by decide +kernel
theorem at14_4 : jm_at 14 4 = some (.ifCond .lt 44) := by decide +kernel
theorem u14_3 {S : Option (Nat × (Nat → Int32))} {H : jm_H} {Q : Option Value → jm_H → Prop} {r0 : Nat} {x1 x2 : Int32} : jm_w S 1 14 3 [.ref r0, .int x1, .int x2] [] H Q = if x2 < 0 then jm_w S 1 14 48 [.ref r0, .int x1, .int x2] [] H Q else jm_w S 1 14 7 [.ref r0, .int x1, .int x2] [] H Q := (js1 at14_3 rfl rfl rfl).trans (jsif (P := x2 < 0) at14_4 rfl rfl)
theorem at14_7 : jm_at 14 7 = some (.aload_n 0) := by decide +kernel
theorem at14_8 : jm_at 14 8 = some (.getfield 15) := by decide +kernel
theorem rv14g_15 : jm_rv 14 (.getfield 15) = (0, 8, 1, 0) := by decide +kernel
theorem at14_11 : jm_at 14 11 = some (.aload_n 0) := by decide +kernel
theorem at14_12 : jm_at 14 12 = some (.getfield 9) := by decide +kernel
theorem rv14g_9 : jm_rv 14 (.getfield 9) = (0, 8, 0, 0) := by decide +kernel
theorem at14_15 : jm_at 14 15 = some (.arraylength) := by decide +kernel
theorem at14_16 : jm_at 14 16 = some (.if_icmp .ge 26) := by decide +kernel
theorem u14_7 {S : Option (Nat × (Nat → Int32))} {H : jm_H} {Q : Option Value → jm_H → Prop} {r0 : Nat} {x1 x2 : Int32} (h0 : jm_tg H r0 = 9) (h1 : ¬ jm_R H r0 0 = 0) (h2 : ¬ (jm_R H r0 0) = 1) (h3 : 100 ≤ jm_tg H (jm_R H r0 0)) : jm_w S 1 14 7 [.ref r0, .int x1, .int x2] [] H Q = if (Int32.ofNat (jm_ln H (jm_R H r0 0))) ≤ (jm_I H r0 1) then jm_w S 1 14 42 [.ref r0, .int x1, .int x2] [] H Q else jm_w S 1 14 19 [.ref r0, .int x1, .int x2] [] H Q := (js1 at14_7 rfl rfl rfl).trans ((jsgI (H := H) at14_8 rv14g_15 (Or.inl rfl) h0 rfl).trans ((js1 at14_11 rfl rfl rfl).trans ((jsgR (H := H) at14_12 rv14g_9 rfl h0 h1 rfl).trans ((jsaln (H := H) at14_15 h2 h3 rfl).trans (jsif (P := (Int32.ofNat (jm_ln H (jm_R H r0 0))) ≤ (jm_I H r0 1)) at14_16 rfl rfl)))))
theorem at14_19 : jm_at 14 19 = some (.aload_n 0) := by decide +kernel
theorem at14_20 : jm_at 14 20 = some (.getfield 9) := by decide +kernel
theorem at14_23 : jm_at 14 23 = some (.aload_n 0) := by decide +kernel
theorem at14_24 : jm_at 14 24 = some (.getfield 15) := by decide +kernel
theorem at14_27 : jm_at 14 27 = some (.iload_n 1) := by decide +kernel
theorem at14_28 : jm_at 14 28 = some (.iload_n 2) := by decide +kernel
theorem at14_29 : jm_at 14 29 = some (.ishr) := by decide +kernel
theorem at14_30 : jm_at 14 30 = some (.i2b) := by decide +kernel
theorem at14_31 : jm_at 14 31 = some (.bastore) := by decide +kernel
theorem at14_32 : jm_at 14 32 = some (.aload_n 0) := by decide +kernel
theorem at14_33 : jm_at 14 33 = some (.dup) := by decide +kernel
theorem at14_34 : jm_at 14 34 = some (.getfield 15) := by decide +kernel
theorem at14_37 : jm_at 14 37 = some (.iconst 1) := by decide +kernel
theorem at14_38 : jm_at 14 38 = some (.iadd) := by decide +kernel
theorem at14_39 : jm_at 14 39 = some (.putfield 15) := by decide +kernel
theorem rv14p_15 : jm_rv 14 (.putfield 15) = (0, 8, 1, 0) := by decide +kernel
theorem u14_19 {S : Option (Nat × (Nat → Int32))} {H : jm_H} {Q : Option Value → jm_H → Prop} {r0 : Nat} {x1 x2 : Int32} (h0 : jm_tg H r0 = 9) (h1 : ¬ jm_R H r0 0 = 0) (h2 : ¬ ((jm_I H r0 1) < 0 ∨ jm_ln H (jm_R H r0 0) ≤ Int32.toNatClampNeg (jm_I H r0 1))) (h3 : jm_tg H (jm_R H r0 0) = 102) : jm_w S 1 14 19 [.ref r0, .int x1, .int x2] [] H Q = jm_w S 1 14 42 [.ref r0, .int x1, .int x2] [] (jm_pI (jm_pI H (jm_R H r0 0) (Int32.toNatClampNeg (jm_I H r0 1)) (Int8.toInt32 (Int32.toInt8 (Int8.toInt32 (Int32.toInt8 (x1 >>> (x2 &&& 31))))))) r0 1 ((jm_I (jm_pI H (jm_R H r0 0) (Int32.toNatClampNeg (jm_I H r0 1)) (Int8.toInt32 (Int32.toInt8 (Int8.toInt32 (Int32.toInt8 (x1 >>> (x2 &&& 31))))))) r0 1) + (1 : Int32))) Q := (js1 at14_19 rfl rfl rfl).trans ((jsgR (H := H) at14_20 rv14g_9 rfl h0 h1 rfl).trans ((js1 at14_23 rfl rfl rfl).trans ((jsgI (H := H) at14_24 rv14g_15 (Or.inl rfl) h0 rfl).trans ((js1 at14_27 rfl rfl rfl).trans ((js1 at14_28 rfl rfl rfl).trans ((js0 at14_29 rfl rfl rfl).trans ((js0 at14_30 rfl rfl rfl).trans ((jsbas (H := H) at14_31 h3 h2 rfl).trans ((js1 at14_32 rfl rfl rfl).trans ((js0 at14_33 rfl rfl rfl).trans ((jsgI (H := (jm_pI H (jm_R H r0 0) (Int32.toNatClampNeg (jm_I H r0 1)) (Int8.toInt32 (Int32.toInt8 (Int8.toInt32 (Int32.toInt8 (x1 >>> (x2 &&& 31)))))))) at14_34 rv14g_15 (Or.inl rfl) h0 rfl).trans ((jsci at14_37 rfl rfl).trans ((js0 at14_38 rfl rfl rfl).trans (jspI (H := (jm_pI H (jm_R H r0 0) (Int32.toNatClampNeg (jm_I H r0 1)) (Int8.toInt32 (Int32.toInt8 (Int8.toInt32 (Int32.toInt8 (x1 >>> (x2 &&& 31)))))))) at14_39 rv14p_15 rfl h0 rfl))))))))))))))
theorem at14_42 : jm_at 14 42 = some (.iinc 2 (-8)) := by decide +kernel
theorem at14_45 : jm_at 14 45 = some (.goto (-42)) := by decide +kernel
theorem u14_42 {S : Option (Nat × (Nat → Int32))} {H : jm_H} {Q : Option Value → jm_H → Prop} {r0 : Nat} {x1 x2 : Int32} : jm_w S 1 14 42 [.ref r0, .int x1, .int x2] [] H Q = jm_w S 1 14 3 [.ref r0, .int x1, .int (x2 + (-8))] [] H Q := (jsinc at14_42 rfl rfl rfl).trans (js2 at14_45 rfl rfl)
theorem at14_48 : jm_at 14 48 = some (.return_) := by decide +kernel
theorem u14_48 {S : Option (Nat × (Nat → Int32))} {H : jm_H} {Q : Option Value → jm_H → Prop} {r0 : Nat} {x1 x2 : Int32} : jm_w S 1 14 48 [.ref r0, .int x1, .int x2] [] H Q = Q none H := jsret_v at14_48 rfl
theorem en14 {S : Option (Nat × (Nat → Int32))} {H : jm_H} {Q : Option Value → jm_H → Prop} {r0 : Nat} {x1 : Int32} : jm_c S 14 [.ref r0, .int x1] H Q = jm_w S 1 14 0 [.ref r0, .int x1, .null] [] H Q := rfl
theorem at20_0 : jm_at 20 0 = some (.iload_n 1) := by decide +kernel
theorem at20_1 : jm_at 20 1 = some (.ifCond .lt 20) := by decide +kernel
theorem u20_0 {S : Option (Nat × (Nat → Int32))} {H : jm_H} {Q : Option Value → jm_H → Prop} {r0 : Nat} {x1 : Int32} : jm_w S 1 20 0 [.ref r0, .int x1] [] H Q = if x1 < 0 then jm_w S 1 20 21 [.ref r0, .int x1] [] H Q else jm_w S 1 20 4 [.ref r0, .int x1] [] H Q := (js1 at20_0 rfl rfl rfl).trans (jsif (P := x1 < 0) at20_1 rfl rfl)
theorem at20_4 : jm_at 20 4 = some (.iload_n 1) := by decide +kernel
theorem at20_5 : jm_at 20 5 = some (.aload_n 0) := by decide +kernel
theorem at20_6 : jm_at 20 6 = some (.getfield 15) := by decide +kernel
theorem rv20g_15 : jm_rv 20 (.getfield 15) = (0, 8, 1, 0) := by decide +kernel
theorem at20_9 : jm_at 20 9 = some (.if_icmp .ge 12) := by decide +kernel
theorem u20_4 {S : Option (Nat × (Nat → Int32))} {H : jm_H} {Q : Option Value → jm_H → Prop} {r0 : Nat} {x1 : Int32} (h0 : jm_tg H r0 = 9) : jm_w S 1 20 4 [.ref r0, .int x1] [] H Q = if (jm_I H r0 1) ≤ x1 then jm_w S 1 20 21 [.ref r0, .int x1] [] H Q else jm_w S 1 20 12 [.ref r0, .int x1] [] H Q := (js1 at20_4 rfl rfl rfl).trans ((js1 at20_5 rfl rfl rfl).trans ((jsgI (H := H) at20_6 rv20g_15 (Or.inl rfl) h0 rfl).trans (jsif (P := (jm_I H r0 1) ≤ x1) at20_9 rfl rfl)))
theorem at20_12 : jm_at 20 12 = some (.iload_n 1) := by decide +kernel
theorem at20_13 : jm_at 20 13 = some (.aload_n 0) := by decide +kernel
theorem at20_14 : jm_at 20 14 = some (.getfield 9) := by decide +kernel
theorem rv20g_9 : jm_rv 20 (.getfield 9) = (0, 8, 0, 0) := by decide +kernel
theorem at20_17 : jm_at 20 17 = some (.arraylength) := by decide +kernel
theorem at20_18 : jm_at 20 18 = some (.if_icmp .lt 7) := by decide +kernel
theorem u20_12 {S : Option (Nat × (Nat → Int32))} {H : jm_H} {Q : Option Value → jm_H → Prop} {r0 : Nat} {x1 : Int32} (h0 : jm_tg H r0 = 9) (h1 : ¬ jm_R H r0 0 = 0) (h2 : ¬ (jm_R H r0 0) = 1) (h3 : 100 ≤ jm_tg H (jm_R H r0 0)) : jm_w S 1 20 12 [.ref r0, .int x1] [] H Q = if x1 < (Int32.ofNat (jm_ln H (jm_R H r0 0))) then jm_w S 1 20 25 [.ref r0, .int x1] [] H Q else jm_w S 1 20 21 [.ref r0, .int x1] [] H Q := (js1 at20_12 rfl rfl rfl).trans ((js1 at20_13 rfl rfl rfl).trans ((jsgR (H := H) at20_14 rv20g_9 rfl h0 h1 rfl).trans ((jsaln (H := H) at20_17 h2 h3 rfl).trans (jsif (P := x1 < (Int32.ofNat (jm_ln H (jm_R H r0 0)))) at20_18 rfl rfl))))
theorem at20_21 : jm_at 20 21 = some (.iconst (-1)) := by decide +kernel
theorem at20_22 : jm_at 20 22 = some (.goto 13) := by decide +kernel
theorem u20_21 {S : Option (Nat × (Nat → Int32))} {H : jm_H} {Q : Option Value → jm_H → Prop} {r0 : Nat} {x1 : Int32} : jm_w S 1 20 21 [.ref r0, .int x1] [] H Q = jm_w S 1 20 35 [.ref r0, .int x1] [.int (-1 : Int32)] H Q := (jsci at20_21 rfl rfl).trans (js2 at20_22 rfl rfl)
theorem at20_25 : jm_at 20 25 = some (.aload_n 0) := by decide +kernel
theorem at20_26 : jm_at 20 26 = some (.getfield 9) := by decide +kernel
theorem at20_29 : jm_at 20 29 = some (.iload_n 1) := by decide +kernel
theorem at20_30 : jm_at 20 30 = some (.baload) := by decide +kernel
theorem at20_31 : jm_at 20 31 = some (.sipush 255) := by decide +kernel
theorem at20_34 : jm_at 20 34 = some (.iand) := by decide +kernel
theorem u20_25 {S : Option (Nat × (Nat → Int32))} {H : jm_H} {Q : Option Value → jm_H → Prop} {r0 : Nat} {x1 : Int32} (h0 : jm_tg H r0 = 9) (h1 : ¬ jm_R H r0 0 = 0) (h2 : ¬ (x1 < 0 ∨ jm_ln H (jm_R H r0 0) ≤ Int32.toNatClampNeg x1)) (h3 : jm_tg H (jm_R H r0 0) = 102 ∨ jm_tg H (jm_R H r0 0) = 103) : jm_w S 1 20 25 [.ref r0, .int x1] [] H Q = jm_w S 1 20 35 [.ref r0, .int x1] [.int ((jm_I H (jm_R H r0 0) (Int32.toNatClampNeg x1)) &&& (255 : Int32))] H Q := (js1 at20_25 rfl rfl rfl).trans ((jsgR (H := H) at20_26 rv20g_9 rfl h0 h1 rfl).trans ((js1 at20_29 rfl rfl rfl).trans ((jsbal (H := H) at20_30 h3 h2 rfl).trans ((jscs at20_31 rfl rfl).trans (js0 at20_34 rfl rfl rfl)))))
theorem at20_35 : jm_at 20 35 = some (.ireturn) := by decide +kernel
theorem u20_35 {S : Option (Nat × (Nat → Int32))} {H : jm_H} {Q : Option Value → jm_H → Prop} {r0 : Nat} {x1 p0 : Int32} : jm_w S 1 20 35 [.ref r0, .int x1] [.int p0] H Q = Q (some (.int p0)) H := jsret_i at20_35 rfl
theorem en20 {S : Option (Nat × (Nat → Int32))} {H : jm_H} {Q : Option Value → jm_H → Prop} {r0 : Nat} {x1 : Int32} : jm_c S 20 [.ref r0, .int x1] H Q = jm_w S 1 20 0 [.ref r0, .int x1] [] H Q := rfl
theorem at105_0 : jm_at 105 0 = some (.aload_n 0) := by decide +kernel
theorem at105_1 : jm_at 105 1 = some (.aload_n 1) := by decide +kernel
theorem at105_2 : jm_at 105 2 = some (.getfield 15) := by decide +kernel
theorem rv105g_15 : jm_rv 105 (.getfield 15) = (0, 8, 1, 0) := by decide +kernel
theorem at105_5 : jm_at 105 5 = some (.aload_n 0) := by decide +kernel
theorem at105_6 : jm_at 105 6 = some (.getfield 9) := by decide +kernel
theorem rv105g_9 : jm_rv 105 (.getfield 9) = (0, 8, 0, 0) := by decide +kernel
theorem at105_9 : jm_at 105 9 = some (.arraylength) := by decide +kernel
theorem at105_10 : jm_at 105 10 = some (.invokestatic 19) := by decide +kernel
theorem rv105i_19 : jm_rv 105 (.invokestatic 19) = (1, 57, 0, 0) := by decide +kernel
theorem u105_0 {S : Option (Nat × (Nat → Int32))} {H : jm_H} {Q : Option Value → jm_H → Prop} {r0 r1 : Nat} (h0 : jm_tg H r1 = 9) (h1 : jm_tg H r0 = 9) (h2 : ¬ jm_R H r0 0 = 0) (h3 : ¬ (jm_R H r0 0) = 1) (h4 : 100 ≤ jm_tg H (jm_R H r0 0)) : jm_w S 2 105 0 [.ref r0, .ref r1, .null] [] H Q = jm_c S 57 [.int (jm_I H r1 1), .int (Int32.ofNat (jm_ln H (jm_R H r0 0)))] H (fun v G => jm_w S 2 105 13 [.ref r0, .ref r1, .null] (v.toList ++ [.ref r0]) G Q) := (js1 at105_0 rfl rfl rfl).trans ((js1 at105_1 rfl rfl rfl).trans ((jsgI (H := H) at105_2 rv105g_15 (Or.inl rfl) h0 rfl).trans ((js1 at105_5 rfl rfl rfl).trans ((jsgR (H := H) at105_6 rv105g_9 rfl h1 h2 rfl).trans ((jsaln (H := H) at105_9 h3 h4 rfl).trans (jscall (H := H) (as := [.int (jm_I H r1 1), .int (Int32.ofNat (jm_ln H (jm_R H r0 0)))]) (q := [.ref r0]) at105_10 rfl rv105i_19 (jscut rfl rfl rfl (Nat.le_of_ble_eq_true rfl)) rfl (Nat.le_of_ble_eq_true rfl) rfl rfl))))))
theorem at105_13 : jm_at 105 13 = some (.putfield 15) := by decide +kernel
theorem rv105p_15 : jm_rv 105 (.putfield 15) = (0, 8, 1, 0) := by decide +kernel
theorem at105_16 : jm_at 105 16 = some (.iconst 0) := by decide +kernel
theorem at105_17 : jm_at 105 17 = some (.istore_n 2) := by decide +kernel
theorem u105_13 {S : Option (Nat × (Nat → Int32))} {H : jm_H} {Q : Option Value → jm_H → Prop} {r0 r1 o0 : Nat} {p1 : Int32} (h0 : jm_tg H o0 = 9) : jm_w S 2 105 13 [.ref r0, .ref r1, .null] [.int p1, .ref o0] H Q = jm_w S 2 105 18 [.ref r0, .ref r1, .int (0 : Int32)] [] (jm_pI H o0 1 p1) Q := (jspI (H := H) at105_13 rv105p_15 rfl h0 rfl).trans ((jsci at105_16 rfl rfl).trans (js1 at105_17 rfl rfl rfl))
theorem at105_18 : jm_at 105 18 = some (.iload_n 2) := by decide +kernel
theorem at105_19 : jm_at 105 19 = some (.aload_n 0) := by decide +kernel
theorem at105_20 : jm_at 105 20 = some (.getfield 15) := by decide +kernel
theorem at105_23 : jm_at 105 23 = some (.if_icmp .ge 30) := by decide +kernel
theorem u105_18 {S : Option (Nat × (Nat → Int32))} {H : jm_H} {Q : Option Value → jm_H → Prop} {r0 r1 : Nat} {x2 : Int32} (h0 : jm_tg H r0 = 9) : jm_w S 2 105 18 [.ref r0, .ref r1, .int x2] [] H Q = if (jm_I H r0 1) ≤ x2 then jm_w S 2 105 53 [.ref r0, .ref r1, .int x2] [] H Q else jm_w S 2 105 26 [.ref r0, .ref r1, .int x2] [] H Q := (js1 at105_18 rfl rfl rfl).trans ((js1 at105_19 rfl rfl rfl).trans ((jsgI (H := H) at105_20 rv105g_15 (Or.inl rfl) h0 rfl).trans (jsif (P := (jm_I H r0 1) ≤ x2) at105_23 rfl rfl)))
theorem at105_26 : jm_at 105 26 = some (.iload_n 2) := by decide +kernel
theorem at105_27 : jm_at 105 27 = some (.aload_n 1) := by decide +kernel
theorem at105_28 : jm_at 105 28 = some (.getfield 9) := by decide +kernel
theorem at105_31 : jm_at 105 31 = some (.arraylength) := by decide +kernel
theorem at105_32 : jm_at 105 32 = some (.if_icmp .ge 21) := by decide +kernel
theorem u105_26 {S : Option (Nat × (Nat → Int32))} {H : jm_H} {Q : Option Value → jm_H → Prop} {r0 r1 : Nat} {x2 : Int32} (h0 : jm_tg H r1 = 9) (h1 : ¬ jm_R H r1 0 = 0) (h2 : ¬ (jm_R H r1 0) = 1) (h3 : 100 ≤ jm_tg H (jm_R H r1 0)) : jm_w S 2 105 26 [.ref r0, .ref r1, .int x2] [] H Q = if (Int32.ofNat (jm_ln H (jm_R H r1 0))) ≤ x2 then jm_w S 2 105 53 [.ref r0, .ref r1, .int x2] [] H Q else jm_w S 2 105 35 [.ref r0, .ref r1, .int x2] [] H Q := (js1 at105_26 rfl rfl rfl).trans ((js1 at105_27 rfl rfl rfl).trans ((jsgR (H := H) at105_28 rv105g_9 rfl h0 h1 rfl).trans ((jsaln (H := H) at105_31 h2 h3 rfl).trans (jsif (P := (Int32.ofNat (jm_ln H (jm_R H r1 0))) ≤ x2) at105_32 rfl rfl))))
theorem at105_35 : jm_at 105 35 = some (.aload_n 0) := by decide +kernel
theorem at105_36 : jm_at 105 36 = some (.getfield 9) := by decide +kernel
theorem at105_39 : jm_at 105 39 = some (.iload_n 2) := by decide +kernel
theorem at105_40 : jm_at 105 40 = some (.aload_n 1) := by decide +kernel
theorem at105_41 : jm_at 105 41 = some (.getfield 9) := by decide +kernel
theorem at105_44 : jm_at 105 44 = some (.iload_n 2) := by decide +kernel
theorem at105_45 : jm_at 105 45 = some (.baload) := by decide +kernel
theorem at105_46 : jm_at 105 46 = some (.bastore) := by decide +kernel
theorem at105_47 : jm_at 105 47 = some (.iinc 2 1) := by decide +kernel
theorem at105_50 : jm_at 105 50 = some (.goto (-32)) := by decide +kernel
theorem u105_35 {S : Option (Nat × (Nat → Int32))} {H : jm_H} {Q : Option Value → jm_H → Prop} {r0 r1 : Nat} {x2 : Int32} (h0 : jm_tg H r0 = 9) (h1 : ¬ jm_R H r0 0 = 0) (h2 : jm_tg H r1 = 9) (h3 : ¬ jm_R H r1 0 = 0) (h4 : ¬ (x2 < 0 ∨ jm_ln H (jm_R H r1 0) ≤ Int32.toNatClampNeg x2)) (h5 : jm_tg H (jm_R H r1 0) = 102 ∨ jm_tg H (jm_R H r1 0) = 103) (h6 : ¬ (x2 < 0 ∨ jm_ln H (jm_R H r0 0) ≤ Int32.toNatClampNeg x2)) (h7 : jm_tg H (jm_R H r0 0) = 102) : jm_w S 2 105 35 [.ref r0, .ref r1, .int x2] [] H Q = jm_w S 2 105 18 [.ref r0, .ref r1, .int (x2 + 1)] [] (jm_pI H (jm_R H r0 0) (Int32.toNatClampNeg x2) (Int8.toInt32 (Int32.toInt8 (jm_I H (jm_R H r1 0) (Int32.toNatClampNeg x2))))) Q := (js1 at105_35 rfl rfl rfl).trans ((jsgR (H := H) at105_36 rv105g_9 rfl h0 h1 rfl).trans ((js1 at105_39 rfl rfl rfl).trans ((js1 at105_40 rfl rfl rfl).trans ((jsgR (H := H) at105_41 rv105g_9 rfl h2 h3 rfl).trans ((js1 at105_44 rfl rfl rfl).trans ((jsbal (H := H) at105_45 h5 h4 rfl).trans ((jsbas (H := H) at105_46 h7 h6 rfl).trans ((jsinc at105_47 rfl rfl rfl).trans (js2 at105_50 rfl rfl)))))))))
theorem at105_53 : jm_at 105 53 = some (.return_) := by decide +kernel
theorem u105_53 {S : Option (Nat × (Nat → Int32))} {H : jm_H} {Q : Option Value → jm_H → Prop} {r0 r1 : Nat} {x2 : Int32} : jm_w S 2 105 53 [.ref r0, .ref r1, .int x2] [] H Q = Q none H := jsret_v at105_53 rfl
theorem en105 {S : Option (Nat × (Nat → Int32))} {H : jm_H} {Q : Option Value → jm_H → Prop} {r0 r1 : Nat} : jm_c S 105 [.ref r0, .ref r1] H Q = jm_w S 2 105 0 [.ref r0, .ref r1, .null] [] H Q := rfl
