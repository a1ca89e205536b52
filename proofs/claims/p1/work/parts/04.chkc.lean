theorem jm_okc0 : jm_xc 0 = true := by decide +kernel
theorem jm_okc1 : jm_xc 1 = true := by decide +kernel
theorem jm_okc2 : jm_xc 2 = true := by decide +kernel
theorem jm_okc3 : jm_xc 3 = true := by decide +kernel
theorem jm_okc4 : jm_xc 4 = true := by decide +kernel
theorem jm_okc5 : jm_xc 5 = true := by decide +kernel
theorem jm_okc6 : jm_xc 6 = true := by decide +kernel
theorem jm_okc7 : jm_xc 7 = true := by decide +kernel
theorem jm_okc8 : jm_xc 8 = true := by decide +kernel
theorem jm_okc9 : jm_xc 9 = true := by decide +kernel
theorem jm_okc10 : jm_xc 10 = true := by decide +kernel
theorem jm_okc11 : jm_xc 11 = true := by decide +kernel
theorem jm_okc12 : jm_xc 12 = true := by decide +kernel
theorem jm_okc13 : jm_xc 13 = true := by decide +kernel
theorem jm_okc14 : jm_xc 14 = true := by decide +kernel
theorem jm_okc15 : jm_xc 15 = true := by decide +kernel
theorem jm_okc16 : jm_xc 16 = true := by decide +kernel
theorem jm_okc17 : jm_xc 17 = true := by decide +kernel
theorem jm_okc18 : jm_xc 18 = true := by decide +kernel
theorem jm_okc19 : jm_xc 19 = true := by decide +kernel
theorem jm_okc20 : jm_xc 20 = true := by decide +kernel
theorem jm_okc21 : jm_xc 21 = true := by decide +kernel
theorem jm_okc22 : jm_xc 22 = true := by decide +kernel
theorem jm_okc23 : jm_xc 23 = true := by decide +kernel
theorem jm_okc24 : jm_xc 24 = true := by decide +kernel
theorem jm_okc25 : jm_xc 25 = true := by decide +kernel
theorem jm_okc26 : jm_xc 26 = true := by decide +kernel
theorem jm_okc27 : jm_xc 27 = true := by decide +kernel
theorem jm_okc28 : jm_xc 28 = true := by decide +kernel
theorem jm_okc29 : jm_xc 29 = true := by decide +kernel
theorem jm_okc30 : jm_xc 30 = true := by decide +kernel
theorem jm_okc31 : jm_xc 31 = true := by decide +kernel
theorem jm_okc32 : jm_xc 32 = true := by decide +kernel
theorem jm_okc33 : jm_xc 33 = true := by decide +kernel
theorem jm_okc34 : jm_xc 34 = true := by decide +kernel
theorem jm_okc35 : jm_xc 35 = true := by decide +kernel
theorem jm_okc36 : jm_xc 36 = true := by decide +kernel
theorem jm_okc37 : jm_xc 37 = true := by decide +kernel
theorem jm_okc38 : jm_xc 38 = true := by decide +kernel
theorem jm_okc39 : jm_xc 39 = true := by decide +kernel
theorem jm_okc40 : jm_xc 40 = true := by decide +kernel
theorem jm_okc41 : jm_xc 41 = true := by decide +kernel
theorem jm_okc42 : jm_xc 42 = true := by decide +kernel
theorem jm_okc43 : jm_xc 43 = true := by decide +kernel
theorem jm_okc44 : jm_xc 44 = true := by decide +kernel
theorem jm_okc45 : jm_xc 45 = true := by decide +kernel
theorem jm_okc46 : jm_xc 46 = true := by decide +kernel
theorem jm_okc47 : jm_xc 47 = true := by decide +kernel
theorem jm_okc48 : jm_xc 48 = true := by decide +kernel
theorem jm_okc49 : jm_xc 49 = true := by decide +kernel
theorem jm_okc50 : jm_xc 50 = true := by decide +kernel
theorem jm_okc51 : jm_xc 51 = true := by decide +kernel
theorem jm_okc52 : jm_xc 52 = true := by decide +kernel
theorem jm_okc53 : jm_xc 53 = true := by decide +kernel
theorem jm_okc54 : jm_xc 54 = true := by decide +kernel
theorem jm_okc55 : jm_xc 55 = true := by decide +kernel
theorem jm_okc56 : jm_xc 56 = true := by decide +kernel
theorem jm_okc57 : jm_xc 57 = true := by decide +kernel
theorem jm_okc58 : jm_xc 58 = true := by decide +kernel
theorem jm_okc59 : jm_xc 59 = true := by decide +kernel
theorem jm_okc60 : jm_xc 60 = true := by decide +kernel
theorem jm_okc61 : jm_xc 61 = true := by decide +kernel
theorem jm_okc62 : jm_xc 62 = true := by decide +kernel
theorem jm_okc63 : jm_xc 63 = true := by decide +kernel
theorem jm_okc64 : jm_xc 64 = true := by decide +kernel
theorem jm_okc65 : jm_xc 65 = true := by decide +kernel
theorem jm_okc66 : jm_xc 66 = true := by decide +kernel
theorem jm_okc67 : jm_xc 67 = true := by decide +kernel
theorem jm_okc68 : jm_xc 68 = true := by decide +kernel
theorem jm_okc69 : jm_xc 69 = true := by decide +kernel
theorem jm_okc70 : jm_xc 70 = true := by decide +kernel
theorem jm_okc71 : jm_xc 71 = true := by decide +kernel
theorem jm_okc72 : jm_xc 72 = true := by decide +kernel
theorem jm_okc73 : jm_xc 73 = true := by decide +kernel
theorem jm_okc74 : jm_xc 74 = true := by decide +kernel
theorem jm_okc75 : jm_xc 75 = true := by decide +kernel
theorem jm_okc76 : jm_xc 76 = true := by decide +kernel
theorem jm_okc77 : jm_xc 77 = true := by decide +kernel
theorem jm_okc78 : jm_xc 78 = true := by decide +kernel
theorem jm_okc79 : jm_xc 79 = true := by decide +kernel
theorem jm_okc80 : jm_xc 80 = true := by decide +kernel
theorem jm_okc81 : jm_xc 81 = true := by decide +kernel
theorem jm_okc82 : jm_xc 82 = true := by decide +kernel
theorem jm_okc83 : jm_xc 83 = true := by decide +kernel
theorem jm_okc84 : jm_xc 84 = true := by decide +kernel
theorem jm_okc85 : jm_xc 85 = true := by decide +kernel
theorem jm_okc86 : jm_xc 86 = true := by decide +kernel
theorem jm_okc87 : jm_xc 87 = true := by decide +kernel
theorem jm_okc88 : jm_xc 88 = true := by decide +kernel
theorem jm_okc89 : jm_xc 89 = true := by decide +kernel
theorem jm_okc90 : jm_xc 90 = true := by decide +kernel
theorem jm_okc91 : jm_xc 91 = true := by decide +kernel
theorem jm_okc92 : jm_xc 92 = true := by decide +kernel
theorem jm_okc93 : jm_xc 93 = true := by decide +kernel
theorem jm_okc94 : jm_xc 94 = true := by decide +kernel
theorem jm_okc95 : jm_xc 95 = true := by decide +kernel
theorem jm_okc96 : jm_xc 96 = true := by decide +kernel
theorem jm_okc97 : jm_xc 97 = true := by decide +kernel
theorem jm_okc98 : jm_xc 98 = true := by decide +kernel
theorem jm_okc99 : jm_xc 99 = true := by decide +kernel
theorem jm_okc100 : jm_xc 100 = true := by decide +kernel
theorem jm_okc101 : jm_xc 101 = true := by decide +kernel
theorem jm_okc102 : jm_xc 102 = true := by decide +kernel
theorem jm_okc103 : jm_xc 103 = true := by decide +kernel
theorem jm_okc104 : jm_xc 104 = true := by decide +kernel
theorem jm_okc105 : jm_xc 105 = true := by decide +kernel
theorem jm_okc106 : jm_xc 106 = true := by decide +kernel
theorem jm_okc107 : jm_xc 107 = true := by decide +kernel
theorem jm_okc108 : jm_xc 108 = true := by decide +kernel
theorem jm_okc109 : jm_xc 109 = true := by decide +kernel
theorem jm_okc110 : jm_xc 110 = true := by decide +kernel
theorem jm_okc111 : jm_xc 111 = true := by decide +kernel
theorem jm_okc112 : jm_xc 112 = true := by decide +kernel
theorem jm_okc113 : jm_xc 113 = true := by decide +kernel
theorem jm_okc114 : jm_xc 114 = true := by decide +kernel
theorem jm_okc115 : jm_xc 115 = true := by decide +kernel
theorem jm_okc116 : jm_xc 116 = true := by decide +kernel
theorem jm_okc117 : jm_xc 117 = true := by decide +kernel
theorem jm_okc118 : jm_xc 118 = true := by decide +kernel
theorem jm_okc119 : jm_xc 119 = true := by decide +kernel
theorem jm_okc120 : jm_xc 120 = true := by decide +kernel
theorem jm_okc121 : jm_xc 121 = true := by decide +kernel
theorem jm_okc122 : jm_xc 122 = true := by decide +kernel
theorem jm_okc123 : jm_xc 123 = true := by decide +kernel
theorem jm_okc124 : jm_xc 124 = true := by decide +kernel
theorem jm_okc125 : jm_xc 125 = true := by decide +kernel
theorem jm_okc126 : jm_xc 126 = true := by decide +kernel
theorem jm_okc127 : jm_xc 127 = true := by decide +kernel
theorem jm_okc128 : jm_xc 128 = true := by decide +kernel
theorem jm_okc129 : jm_xc 129 = true := by decide +kernel
theorem jm_okc130 : jm_xc 130 = true := by decide +kernel
theorem jm_okc131 : jm_xc 131 = true := by decide +kernel
theorem jm_okc132 : jm_xc 132 = true := by decide +kernel
theorem jm_okc133 : jm_xc 133 = true := by decide +kernel
theorem jm_okc134 : jm_xc 134 = true := by decide +kernel
theorem jm_okc135 : jm_xc 135 = true := by decide +kernel
theorem jm_okc136 : jm_xc 136 = true := by decide +kernel
theorem jm_okc137 : jm_xc 137 = true := by decide +kernel
theorem jm_okc138 : jm_xc 138 = true := by decide +kernel
theorem jm_okc139 : jm_xc 139 = true := by decide +kernel
theorem jm_okc140 : jm_xc 140 = true := by decide +kernel
theorem jm_okc141 : jm_xc 141 = true := by decide +kernel
theorem jm_okc142 : jm_xc 142 = true := by decide +kernel
theorem jm_okc143 : jm_xc 143 = true := by decide +kernel
theorem jm_okc144 : jm_xc 144 = true := by decide +kernel
theorem jm_okc145 : jm_xc 145 = true := by decide +kernel
theorem jm_okc146 : jm_xc 146 = true := by decide +kernel
theorem jm_okc147 : jm_xc 147 = true := by decide +kernel
theorem jm_okc148 : jm_xc 148 = true := by decide +kernel
theorem jm_okc149 : jm_xc 149 = true := by decide +kernel
theorem jm_okc150 : jm_xc 150 = true := by decide +kernel
theorem jm_okc151 : jm_xc 151 = true := by decide +kernel
theorem jm_okc152 : jm_xc 152 = true := by decide +kernel
theorem jm_okc153 : jm_xc 153 = true := by decide +kernel
theorem jm_okc154 : jm_xc 154 = true := by decide +kernel
theorem jm_okc155 : jm_xc 155 = true := by decide +kernel
theorem jm_okc156 : jm_xc 156 = true := by decide +kernel
theorem jm_okc157 : jm_xc 157 = true := by decide +kernel
theorem jm_okc158 : jm_xc 158 = true := by decide +kernel
theorem jm_okc159 : jm_xc 159 = true := by decide +kernel
theorem jm_okc160 : jm_xc 160 = true := by decide +kernel
theorem jm_okc161 : jm_xc 161 = true := by decide +kernel
theorem jm_okc162 : jm_xc 162 = true := by decide +kernel
theorem jm_okc163 : jm_xc 163 = true := by decide +kernel
theorem jm_okc164 : jm_xc 164 = true := by decide +kernel
theorem jm_okc165 : jm_xc 165 = true := by decide +kernel
theorem jm_okc166 : jm_xc 166 = true := by decide +kernel
theorem jm_okc167 : jm_xc 167 = true := by decide +kernel
theorem jm_okc168 : jm_xc 168 = true := by decide +kernel
theorem jm_okc169 : jm_xc 169 = true := by decide +kernel
theorem jm_okc170 : jm_xc 170 = true := by decide +kernel
theorem jm_okc171 : jm_xc 171 = true := by decide +kernel
theorem jm_okc172 : jm_xc 172 = true := by decide +kernel
theorem jm_okc173 : jm_xc 173 = true := by decide +kernel
theorem jm_okc174 : jm_xc 174 = true := by decide +kernel
theorem jm_okc175 : jm_xc 175 = true := by decide +kernel
theorem jm_okc176 : jm_xc 176 = true := by decide +kernel
theorem jm_okc177 : jm_xc 177 = true := by decide +kernel
theorem jm_okc178 : jm_xc 178 = true := by decide +kernel
theorem jm_okc179 : jm_xc 179 = true := by decide +kernel
theorem jm_okc180 : jm_xc 180 = true := by decide +kernel
theorem jm_okc181 : jm_xc 181 = true := by decide +kernel
theorem jm_okc182 : jm_xc 182 = true := by decide +kernel
theorem jm_okc183 : jm_xc 183 = true := by decide +kernel
theorem jm_okc184 : jm_xc 184 = true := by decide +kernel
theorem jm_okc185 : jm_xc 185 = true := by decide +kernel
theorem jm_okc186 : jm_xc 186 = true := by decide +kernel
theorem jm_okc187 : jm_xc 187 = true := by decide +kernel
theorem jm_okc188 : jm_xc 188 = true := by decide +kernel
theorem jm_okc189 : jm_xc 189 = true := by decide +kernel
theorem jm_okc190 : jm_xc 190 = true := by decide +kernel
theorem jm_okc191 : jm_xc 191 = true := by decide +kernel
theorem jm_okc192 : jm_xc 192 = true := by decide +kernel
theorem jm_okc193 : jm_xc 193 = true := by decide +kernel
theorem jm_okc194 : jm_xc 194 = true := by decide +kernel
theorem jm_okc195 : jm_xc 195 = true := by decide +kernel
theorem jm_okc196 : jm_xc 196 = true := by decide +kernel
theorem jm_okc197 : jm_xc 197 = true := by decide +kernel
theorem jm_okc198 : jm_xc 198 = true := by decide +kernel
theorem jm_okc199 : jm_xc 199 = true := by decide +kernel
theorem jm_okc200 : jm_xc 200 = true := by decide +kernel
theorem jm_okc201 : jm_xc 201 = true := by decide +kernel
theorem jm_okc202 : jm_xc 202 = true := by decide +kernel
theorem jm_okc203 : jm_xc 203 = true := by decide +kernel
theorem jm_okc204 : jm_xc 204 = true := by decide +kernel
theorem jm_okc205 : jm_xc 205 = true := by decide +kernel
theorem jm_okc206 : jm_xc 206 = true := by decide +kernel
theorem jm_okc207 : jm_xc 207 = true := by decide +kernel
theorem jm_okc208 : jm_xc 208 = true := by decide +kernel
theorem jm_okc209 : jm_xc 209 = true := by decide +kernel
theorem jm_okc210 : jm_xc 210 = true := by decide +kernel
theorem jm_okc211 : jm_xc 211 = true := by decide +kernel
theorem jm_okc212 : jm_xc 212 = true := by decide +kernel
theorem jm_okc213 : jm_xc 213 = true := by decide +kernel
theorem jm_okc214 : jm_xc 214 = true := by decide +kernel
theorem jm_okc215 : jm_xc 215 = true := by decide +kernel
theorem jm_okc216 : jm_xc 216 = true := by decide +kernel
theorem jm_okc217 : jm_xc 217 = true := by decide +kernel
theorem jm_okc218 : jm_xc 218 = true := by decide +kernel
theorem jm_okc219 : jm_xc 219 = true := by decide +kernel
theorem jm_okc220 : jm_xc 220 = true := by decide +kernel
theorem jm_okc221 : jm_xc 221 = true := by decide +kernel
theorem jm_okc222 : jm_xc 222 = true := by decide +kernel
theorem jm_okc223 : jm_xc 223 = true := by decide +kernel
theorem jm_okc224 : jm_xc 224 = true := by decide +kernel
theorem jm_okc225 : jm_xc 225 = true := by decide +kernel
theorem jm_okc226 : jm_xc 226 = true := by decide +kernel
theorem jm_okc227 : jm_xc 227 = true := by decide +kernel
theorem jm_okc228 : jm_xc 228 = true := by decide +kernel
theorem jm_okc229 : jm_xc 229 = true := by decide +kernel
theorem jm_okc230 : jm_xc 230 = true := by decide +kernel
theorem jm_okc231 : jm_xc 231 = true := by decide +kernel
theorem jm_okc232 : jm_xc 232 = true := by decide +kernel
theorem jm_okc233 : jm_xc 233 = true := by decide +kernel
theorem jm_okc234 : jm_xc 234 = true := by decide +kernel
theorem jm_okc235 : jm_xc 235 = true := by decide +kernel
theorem jm_okc236 : jm_xc 236 = true := by decide +kernel
theorem jm_okc237 : jm_xc 237 = true := by decide +kernel
theorem jm_okc238 : jm_xc 238 = true := by decide +kernel
theorem jm_okc239 : jm_xc 239 = true := by decide +kernel
theorem jm_okc240 : jm_xc 240 = true := by decide +kernel
theorem jm_okc241 : jm_xc 241 = true := by decide +kernel
theorem jm_okc242 : jm_xc 242 = true := by decide +kernel
theorem jm_okc243 : jm_xc 243 = true := by decide +kernel
theorem jm_okc244 : jm_xc 244 = true := by decide +kernel
theorem jm_okc245 : jm_xc 245 = true := by decide +kernel
theorem jm_okc246 : jm_xc 246 = true := by decide +kernel
theorem jm_okc247 : jm_xc 247 = true := by decide +kernel
theorem jm_okc248 : jm_xc 248 = true := by decide +kernel
theorem jm_okc249 : jm_xc 249 = true := by decide +kernel
theorem jm_okc250 : jm_xc 250 = true := by decide +kernel
theorem jm_okc251 : jm_xc 251 = true := by decide +kernel
theorem jm_okc252 : jm_xc 252 = true := by decide +kernel
theorem jm_okc253 : jm_xc 253 = true := by decide +kernel
theorem jm_okc254 : jm_xc 254 = true := by decide +kernel
def jm_c255_0 : List (Nat × Instr) := [(0, .new 7), (3, .dup), (4, .invokespecial 9), (7, .astore_n 1), (8, .new 10), (11, .dup), (12, .invokespecial 12), (15, .astore_n 2), (16, .iconst 0), (17, .istore_n 3), (18, .iload_n 3), (19, .aload_n 0), (20, .arraylength), (21, .bipush 6), (23, .isub), (24, .if_icmp .gt 1313), (27, .aload_n 0), (28, .iload_n 3), (29, .iaload), (30, .bipush 31), (32, .iand), (33, .tableswitch 1298 0 27 #[127, 190, 213, 226, 239, 272, 331, 344, 357, 410, 473, 536, 579, 642, 695, 748, 801, 864, 917, 980, 1003, 1056, 1120, 1153, 1196, 1229, 1252, 1275]), (160, .aload_n 1), (161, .aload_n 0), (162, .iload_n 3), (163, .iconst 1), (164, .iadd), (165, .iaload), (166, .aload_n 0), (167, .iload_n 3), (168, .iconst 2), (169, .iadd), (170, .iaload), (171, .aload_n 0), (172, .iload_n 3), (173, .iconst 3), (174, .iadd), (175, .iaload), (176, .aload_n 0), (177, .iload_n 3), (178, .iconst 4), (179, .iadd), (180, .iaload), (181, .aload_n 0), (182, .iload_n 3), (183, .iconst 5), (184, .iadd), (185, .iaload), (186, .invokevirtual 13), (189, .aload_n 2), (190, .aload_n 0), (191, .iload_n 3), (192, .iconst 1), (193, .iadd), (194, .iaload), (195, .aload_n 0), (196, .iload_n 3), (197, .iconst 2), (198, .iadd), (199, .iaload)]
theorem jm_okc255_0 : jm_c255_0.all (jm_xi 255) = true := by decide +kernel
def jm_c255_1 : List (Nat × Instr) := [(200, .aload_n 0), (201, .iload_n 3), (202, .iconst 3), (203, .iadd), (204, .iaload), (205, .aload_n 0), (206, .iload_n 3), (207, .iconst 4), (208, .iadd), (209, .iaload), (210, .aload_n 0), (211, .iload_n 3), (212, .iconst 5), (213, .iadd), (214, .iaload), (215, .invokevirtual 17), (218, .if_icmp .eq 1113), (221, .iconst 0), (222, .ireturn), (223, .aload_n 1), (224, .aload_n 0), (225, .iload_n 3), (226, .iconst 1), (227, .iadd), (228, .iaload), (229, .invokevirtual 18), (232, .aload_n 2), (233, .aload_n 0), (234, .iload_n 3), (235, .iconst 1), (236, .iadd), (237, .iaload), (238, .invokevirtual 22), (241, .if_icmp .eq 1090), (244, .iconst 0), (245, .ireturn), (246, .aload_n 1), (247, .invokevirtual 23), (250, .aload_n 2), (251, .invokevirtual 27), (254, .if_icmp .eq 1077), (257, .iconst 0), (258, .ireturn), (259, .aload_n 1), (260, .invokevirtual 28), (263, .aload_n 2), (264, .invokevirtual 31), (267, .if_icmp .eq 1064), (270, .iconst 0), (271, .ireturn), (272, .aload_n 1), (273, .aload_n 0), (274, .iload_n 3), (275, .iconst 1), (276, .iadd), (277, .iaload), (278, .aload_n 0), (279, .iload_n 3), (280, .iconst 2), (281, .iadd)]
theorem jm_okc255_1 : jm_c255_1.all (jm_xi 255) = true := by decide +kernel
def jm_c255_2 : List (Nat × Instr) := [(282, .iaload), (283, .invokevirtual 32), (286, .aload_n 2), (287, .aload_n 0), (288, .iload_n 3), (289, .iconst 1), (290, .iadd), (291, .iaload), (292, .aload_n 0), (293, .iload_n 3), (294, .iconst 2), (295, .iadd), (296, .iaload), (297, .invokevirtual 36), (300, .if_icmp .eq 1031), (303, .iconst 0), (304, .ireturn), (305, .aload_n 1), (306, .aload_n 0), (307, .iload_n 3), (308, .iconst 1), (309, .iadd), (310, .iaload), (311, .aload_n 0), (312, .iload_n 3), (313, .iconst 2), (314, .iadd), (315, .iaload), (316, .aload_n 0), (317, .iload_n 3), (318, .iconst 3), (319, .iadd), (320, .iaload), (321, .ifCond .eq 7), (324, .iconst 1), (325, .goto 4), (328, .iconst 0), (329, .invokevirtual 37), (332, .aload_n 2), (333, .aload_n 0), (334, .iload_n 3), (335, .iconst 1), (336, .iadd), (337, .iaload), (338, .aload_n 0), (339, .iload_n 3), (340, .iconst 2), (341, .iadd), (342, .iaload), (343, .aload_n 0), (344, .iload_n 3), (345, .iconst 3), (346, .iadd), (347, .iaload), (348, .ifCond .eq 7), (351, .iconst 1), (352, .goto 4), (355, .iconst 0), (356, .invokevirtual 41), (359, .if_icmp .eq 972)]
theorem jm_okc255_2 : jm_c255_2.all (jm_xi 255) = true := by decide +kernel
def jm_c255_3 : List (Nat × Instr) := [(362, .iconst 0), (363, .ireturn), (364, .aload_n 1), (365, .invokevirtual 42), (368, .aload_n 2), (369, .invokevirtual 46), (372, .if_icmp .eq 959), (375, .iconst 0), (376, .ireturn), (377, .aload_n 1), (378, .invokevirtual 47), (381, .aload_n 2), (382, .invokevirtual 50), (385, .if_icmp .eq 946), (388, .iconst 0), (389, .ireturn), (390, .aload_n 1), (391, .aload_n 0), (392, .iload_n 3), (393, .iconst 1), (394, .iadd), (395, .iaload), (396, .aload_n 0), (397, .iload_n 3), (398, .iconst 2), (399, .iadd), (400, .iaload), (401, .aload_n 0), (402, .iload_n 3), (403, .iconst 3), (404, .iadd), (405, .iaload), (406, .aload_n 0), (407, .iload_n 3), (408, .iconst 4), (409, .iadd), (410, .iaload), (411, .invokevirtual 51), (414, .aload_n 2), (415, .aload_n 0), (416, .iload_n 3), (417, .iconst 1), (418, .iadd), (419, .iaload), (420, .aload_n 0), (421, .iload_n 3), (422, .iconst 2), (423, .iadd), (424, .iaload), (425, .aload_n 0), (426, .iload_n 3), (427, .iconst 3), (428, .iadd), (429, .iaload), (430, .aload_n 0), (431, .iload_n 3), (432, .iconst 4), (433, .iadd), (434, .iaload), (435, .invokevirtual 55)]
theorem jm_okc255_3 : jm_c255_3.all (jm_xi 255) = true := by decide +kernel
def jm_c255_4 : List (Nat × Instr) := [(438, .if_icmp .eq 893), (441, .iconst 0), (442, .ireturn), (443, .aload_n 1), (444, .aload_n 0), (445, .iload_n 3), (446, .iconst 1), (447, .iadd), (448, .iaload), (449, .aload_n 0), (450, .iload_n 3), (451, .iconst 2), (452, .iadd), (453, .iaload), (454, .aload_n 0), (455, .iload_n 3), (456, .iconst 3), (457, .iadd), (458, .iaload), (459, .aload_n 0), (460, .iload_n 3), (461, .iconst 4), (462, .iadd), (463, .iaload), (464, .aload_n 0), (465, .iload_n 3), (466, .iconst 5), (467, .iadd), (468, .iaload), (469, .invokevirtual 56), (472, .aload_n 2), (473, .aload_n 0), (474, .iload_n 3), (475, .iconst 1), (476, .iadd), (477, .iaload), (478, .aload_n 0), (479, .iload_n 3), (480, .iconst 2), (481, .iadd), (482, .iaload), (483, .aload_n 0), (484, .iload_n 3), (485, .iconst 3), (486, .iadd), (487, .iaload), (488, .aload_n 0), (489, .iload_n 3), (490, .iconst 4), (491, .iadd), (492, .iaload), (493, .aload_n 0), (494, .iload_n 3), (495, .iconst 5), (496, .iadd), (497, .iaload), (498, .invokevirtual 59), (501, .if_icmp .eq 830), (504, .iconst 0), (505, .ireturn)]
theorem jm_okc255_4 : jm_c255_4.all (jm_xi 255) = true := by decide +kernel
def jm_c255_5 : List (Nat × Instr) := [(506, .aload_n 1), (507, .aload_n 0), (508, .iload_n 3), (509, .iconst 1), (510, .iadd), (511, .iaload), (512, .aload_n 0), (513, .iload_n 3), (514, .iconst 2), (515, .iadd), (516, .iaload), (517, .aload_n 0), (518, .iload_n 3), (519, .iconst 3), (520, .iadd), (521, .iaload), (522, .aload_n 0), (523, .iload_n 3), (524, .iconst 4), (525, .iadd), (526, .iaload), (527, .aload_n 0), (528, .iload_n 3), (529, .iconst 5), (530, .iadd), (531, .iaload), (532, .invokevirtual 60), (535, .aload_n 2), (536, .aload_n 0), (537, .iload_n 3), (538, .iconst 1), (539, .iadd), (540, .iaload), (541, .aload_n 0), (542, .iload_n 3), (543, .iconst 2), (544, .iadd), (545, .iaload), (546, .aload_n 0), (547, .iload_n 3), (548, .iconst 3), (549, .iadd), (550, .iaload), (551, .aload_n 0), (552, .iload_n 3), (553, .iconst 4), (554, .iadd), (555, .iaload), (556, .aload_n 0), (557, .iload_n 3), (558, .iconst 5), (559, .iadd), (560, .iaload), (561, .invokevirtual 63), (564, .if_icmp .eq 767), (567, .iconst 0), (568, .ireturn), (569, .aload_n 1), (570, .aload_n 0), (571, .iload_n 3)]
theorem jm_okc255_5 : jm_c255_5.all (jm_xi 255) = true := by decide +kernel
def jm_c255_6 : List (Nat × Instr) := [(572, .iconst 1), (573, .iadd), (574, .iaload), (575, .aload_n 0), (576, .iload_n 3), (577, .iconst 2), (578, .iadd), (579, .iaload), (580, .aload_n 0), (581, .iload_n 3), (582, .iconst 3), (583, .iadd), (584, .iaload), (585, .invokevirtual 64), (588, .aload_n 2), (589, .aload_n 0), (590, .iload_n 3), (591, .iconst 1), (592, .iadd), (593, .iaload), (594, .aload_n 0), (595, .iload_n 3), (596, .iconst 2), (597, .iadd), (598, .iaload), (599, .aload_n 0), (600, .iload_n 3), (601, .iconst 3), (602, .iadd), (603, .iaload), (604, .invokevirtual 68), (607, .if_icmp .eq 724), (610, .iconst 0), (611, .ireturn), (612, .aload_n 1), (613, .aload_n 0), (614, .iload_n 3), (615, .iconst 1), (616, .iadd), (617, .iaload), (618, .aload_n 0), (619, .iload_n 3), (620, .iconst 2), (621, .iadd), (622, .iaload), (623, .aload_n 0), (624, .iload_n 3), (625, .iconst 3), (626, .iadd), (627, .iaload), (628, .aload_n 0), (629, .iload_n 3), (630, .iconst 4), (631, .iadd), (632, .iaload), (633, .aload_n 0), (634, .iload_n 3), (635, .iconst 5), (636, .iadd), (637, .iaload)]
theorem jm_okc255_6 : jm_c255_6.all (jm_xi 255) = true := by decide +kernel
def jm_c255_7 : List (Nat × Instr) := [(638, .invokevirtual 69), (641, .aload_n 2), (642, .aload_n 0), (643, .iload_n 3), (644, .iconst 1), (645, .iadd), (646, .iaload), (647, .aload_n 0), (648, .iload_n 3), (649, .iconst 2), (650, .iadd), (651, .iaload), (652, .aload_n 0), (653, .iload_n 3), (654, .iconst 3), (655, .iadd), (656, .iaload), (657, .aload_n 0), (658, .iload_n 3), (659, .iconst 4), (660, .iadd), (661, .iaload), (662, .aload_n 0), (663, .iload_n 3), (664, .iconst 5), (665, .iadd), (666, .iaload), (667, .invokevirtual 72), (670, .if_icmp .eq 661), (673, .iconst 0), (674, .ireturn), (675, .aload_n 1), (676, .aload_n 0), (677, .iload_n 3), (678, .iconst 1), (679, .iadd), (680, .iaload), (681, .aload_n 0), (682, .iload_n 3), (683, .iconst 2), (684, .iadd), (685, .iaload), (686, .aload_n 0), (687, .iload_n 3), (688, .iconst 3), (689, .iadd), (690, .iaload), (691, .aload_n 0), (692, .iload_n 3), (693, .iconst 4), (694, .iadd), (695, .iaload), (696, .invokevirtual 73), (699, .aload_n 2), (700, .aload_n 0), (701, .iload_n 3), (702, .iconst 1), (703, .iadd), (704, .iaload), (705, .aload_n 0)]
theorem jm_okc255_7 : jm_c255_7.all (jm_xi 255) = true := by decide +kernel
def jm_c255_8 : List (Nat × Instr) := [(706, .iload_n 3), (707, .iconst 2), (708, .iadd), (709, .iaload), (710, .aload_n 0), (711, .iload_n 3), (712, .iconst 3), (713, .iadd), (714, .iaload), (715, .aload_n 0), (716, .iload_n 3), (717, .iconst 4), (718, .iadd), (719, .iaload), (720, .invokevirtual 76), (723, .if_icmp .eq 608), (726, .iconst 0), (727, .ireturn), (728, .aload_n 1), (729, .aload_n 0), (730, .iload_n 3), (731, .iconst 1), (732, .iadd), (733, .iaload), (734, .aload_n 0), (735, .iload_n 3), (736, .iconst 2), (737, .iadd), (738, .iaload), (739, .aload_n 0), (740, .iload_n 3), (741, .iconst 3), (742, .iadd), (743, .iaload), (744, .aload_n 0), (745, .iload_n 3), (746, .iconst 4), (747, .iadd), (748, .iaload), (749, .invokevirtual 77), (752, .aload_n 2), (753, .aload_n 0), (754, .iload_n 3), (755, .iconst 1), (756, .iadd), (757, .iaload), (758, .aload_n 0), (759, .iload_n 3), (760, .iconst 2), (761, .iadd), (762, .iaload), (763, .aload_n 0), (764, .iload_n 3), (765, .iconst 3), (766, .iadd), (767, .iaload), (768, .aload_n 0), (769, .iload_n 3), (770, .iconst 4), (771, .iadd)]
theorem jm_okc255_8 : jm_c255_8.all (jm_xi 255) = true := by decide +kernel
def jm_c255_9 : List (Nat × Instr) := [(772, .iaload), (773, .invokevirtual 80), (776, .if_icmp .eq 555), (779, .iconst 0), (780, .ireturn), (781, .aload_n 1), (782, .aload_n 0), (783, .iload_n 3), (784, .iconst 1), (785, .iadd), (786, .iaload), (787, .aload_n 0), (788, .iload_n 3), (789, .iconst 2), (790, .iadd), (791, .iaload), (792, .aload_n 0), (793, .iload_n 3), (794, .iconst 3), (795, .iadd), (796, .iaload), (797, .aload_n 0), (798, .iload_n 3), (799, .iconst 4), (800, .iadd), (801, .iaload), (802, .invokevirtual 81), (805, .aload_n 2), (806, .aload_n 0), (807, .iload_n 3), (808, .iconst 1), (809, .iadd), (810, .iaload), (811, .aload_n 0), (812, .iload_n 3), (813, .iconst 2), (814, .iadd), (815, .iaload), (816, .aload_n 0), (817, .iload_n 3), (818, .iconst 3), (819, .iadd), (820, .iaload), (821, .aload_n 0), (822, .iload_n 3), (823, .iconst 4), (824, .iadd), (825, .iaload), (826, .invokevirtual 84), (829, .if_icmp .eq 502), (832, .iconst 0), (833, .ireturn), (834, .aload_n 1), (835, .aload_n 0), (836, .iload_n 3), (837, .iconst 1), (838, .iadd), (839, .iaload), (840, .aload_n 0), (841, .iload_n 3)]
theorem jm_okc255_9 : jm_c255_9.all (jm_xi 255) = true := by decide +kernel
def jm_c255_10 : List (Nat × Instr) := [(842, .iconst 2), (843, .iadd), (844, .iaload), (845, .aload_n 0), (846, .iload_n 3), (847, .iconst 3), (848, .iadd), (849, .iaload), (850, .aload_n 0), (851, .iload_n 3), (852, .iconst 4), (853, .iadd), (854, .iaload), (855, .aload_n 0), (856, .iload_n 3), (857, .iconst 5), (858, .iadd), (859, .iaload), (860, .invokevirtual 85), (863, .aload_n 2), (864, .aload_n 0), (865, .iload_n 3), (866, .iconst 1), (867, .iadd), (868, .iaload), (869, .aload_n 0), (870, .iload_n 3), (871, .iconst 2), (872, .iadd), (873, .iaload), (874, .aload_n 0), (875, .iload_n 3), (876, .iconst 3), (877, .iadd), (878, .iaload), (879, .aload_n 0), (880, .iload_n 3), (881, .iconst 4), (882, .iadd), (883, .iaload), (884, .aload_n 0), (885, .iload_n 3), (886, .iconst 5), (887, .iadd), (888, .iaload), (889, .invokevirtual 88), (892, .if_icmp .eq 439), (895, .iconst 0), (896, .ireturn), (897, .aload_n 1), (898, .aload_n 0), (899, .iload_n 3), (900, .iconst 1), (901, .iadd), (902, .iaload), (903, .aload_n 0), (904, .iload_n 3), (905, .iconst 2), (906, .iadd), (907, .iaload)]
theorem jm_okc255_10 : jm_c255_10.all (jm_xi 255) = true := by decide +kernel
def jm_c255_11 : List (Nat × Instr) := [(908, .aload_n 0), (909, .iload_n 3), (910, .iconst 3), (911, .iadd), (912, .iaload), (913, .aload_n 0), (914, .iload_n 3), (915, .iconst 4), (916, .iadd), (917, .iaload), (918, .invokevirtual 89), (921, .aload_n 2), (922, .aload_n 0), (923, .iload_n 3), (924, .iconst 1), (925, .iadd), (926, .iaload), (927, .aload_n 0), (928, .iload_n 3), (929, .iconst 2), (930, .iadd), (931, .iaload), (932, .aload_n 0), (933, .iload_n 3), (934, .iconst 3), (935, .iadd), (936, .iaload), (937, .aload_n 0), (938, .iload_n 3), (939, .iconst 4), (940, .iadd), (941, .iaload), (942, .invokevirtual 92), (945, .if_icmp .eq 386), (948, .iconst 0), (949, .ireturn), (950, .aload_n 1), (951, .aload_n 0), (952, .iload_n 3), (953, .iconst 1), (954, .iadd), (955, .iaload), (956, .aload_n 0), (957, .iload_n 3), (958, .iconst 2), (959, .iadd), (960, .iaload), (961, .aload_n 0), (962, .iload_n 3), (963, .iconst 3), (964, .iadd), (965, .iaload), (966, .aload_n 0), (967, .iload_n 3), (968, .iconst 4), (969, .iadd), (970, .iaload), (971, .aload_n 0), (972, .iload_n 3), (973, .iconst 5)]
theorem jm_okc255_11 : jm_c255_11.all (jm_xi 255) = true := by decide +kernel
def jm_c255_12 : List (Nat × Instr) := [(974, .iadd), (975, .iaload), (976, .invokevirtual 93), (979, .aload_n 2), (980, .aload_n 0), (981, .iload_n 3), (982, .iconst 1), (983, .iadd), (984, .iaload), (985, .aload_n 0), (986, .iload_n 3), (987, .iconst 2), (988, .iadd), (989, .iaload), (990, .aload_n 0), (991, .iload_n 3), (992, .iconst 3), (993, .iadd), (994, .iaload), (995, .aload_n 0), (996, .iload_n 3), (997, .iconst 4), (998, .iadd), (999, .iaload), (1000, .aload_n 0), (1001, .iload_n 3), (1002, .iconst 5), (1003, .iadd), (1004, .iaload), (1005, .invokevirtual 96), (1008, .if_icmp .eq 323), (1011, .iconst 0), (1012, .ireturn), (1013, .aload_n 1), (1014, .aload_n 0), (1015, .iload_n 3), (1016, .iconst 1), (1017, .iadd), (1018, .iaload), (1019, .invokevirtual 97), (1022, .aload_n 2), (1023, .aload_n 0), (1024, .iload_n 3), (1025, .iconst 1), (1026, .iadd), (1027, .iaload), (1028, .invokevirtual 100), (1031, .if_icmp .eq 300), (1034, .iconst 0), (1035, .ireturn), (1036, .aload_n 1), (1037, .aload_n 0), (1038, .iload_n 3), (1039, .iconst 1), (1040, .iadd), (1041, .iaload), (1042, .aload_n 0), (1043, .iload_n 3), (1044, .iconst 2), (1045, .iadd)]
theorem jm_okc255_12 : jm_c255_12.all (jm_xi 255) = true := by decide +kernel
def jm_c255_13 : List (Nat × Instr) := [(1046, .iaload), (1047, .aload_n 0), (1048, .iload_n 3), (1049, .iconst 3), (1050, .iadd), (1051, .iaload), (1052, .aload_n 0), (1053, .iload_n 3), (1054, .iconst 4), (1055, .iadd), (1056, .iaload), (1057, .invokevirtual 101), (1060, .aload_n 2), (1061, .aload_n 0), (1062, .iload_n 3), (1063, .iconst 1), (1064, .iadd), (1065, .iaload), (1066, .aload_n 0), (1067, .iload_n 3), (1068, .iconst 2), (1069, .iadd), (1070, .iaload), (1071, .aload_n 0), (1072, .iload_n 3), (1073, .iconst 3), (1074, .iadd), (1075, .iaload), (1076, .aload_n 0), (1077, .iload_n 3), (1078, .iconst 4), (1079, .iadd), (1080, .iaload), (1081, .invokevirtual 104), (1084, .if_icmp .eq 247), (1087, .iconst 0), (1088, .ireturn), (1089, .aload_n 1), (1090, .aload_n 0), (1091, .iload_n 3), (1092, .iconst 1), (1093, .iadd), (1094, .iaload), (1095, .aload_n 0), (1096, .iload_n 3), (1097, .iconst 2), (1098, .iadd), (1099, .iaload), (1100, .aload_n 0), (1101, .iload_n 3), (1102, .iconst 3), (1103, .iadd), (1104, .iaload), (1105, .aload_n 0), (1106, .iload_n 3), (1107, .iconst 4), (1108, .iadd), (1109, .iaload), (1110, .aload_n 0), (1111, .iload_n 3)]
theorem jm_okc255_13 : jm_c255_13.all (jm_xi 255) = true := by decide +kernel
def jm_c255_14 : List (Nat × Instr) := [(1112, .iconst 5), (1113, .iadd), (1114, .iaload), (1115, .invokevirtual 105), (1118, .aload_n 2), (1119, .aload_n 0), (1120, .iload_n 3), (1121, .iconst 1), (1122, .iadd), (1123, .iaload), (1124, .aload_n 0), (1125, .iload_n 3), (1126, .iconst 2), (1127, .iadd), (1128, .iaload), (1129, .aload_n 0), (1130, .iload_n 3), (1131, .iconst 3), (1132, .iadd), (1133, .iaload), (1134, .aload_n 0), (1135, .iload_n 3), (1136, .iconst 4), (1137, .iadd), (1138, .iaload), (1139, .aload_n 0), (1140, .iload_n 3), (1141, .iconst 5), (1142, .iadd), (1143, .iaload), (1144, .invokevirtual 109), (1147, .lcmp), (1148, .ifCond .eq 183), (1151, .iconst 0), (1152, .ireturn), (1153, .aload_n 1), (1154, .aload_n 0), (1155, .iload_n 3), (1156, .iconst 1), (1157, .iadd), (1158, .iaload), (1159, .aload_n 0), (1160, .iload_n 3), (1161, .iconst 2), (1162, .iadd), (1163, .iaload), (1164, .invokevirtual 110), (1167, .aload_n 2), (1168, .aload_n 0), (1169, .iload_n 3), (1170, .iconst 1), (1171, .iadd), (1172, .iaload), (1173, .aload_n 0), (1174, .iload_n 3), (1175, .iconst 2), (1176, .iadd), (1177, .iaload), (1178, .invokevirtual 114), (1181, .if_icmp .eq 150)]
theorem jm_okc255_14 : jm_c255_14.all (jm_xi 255) = true := by decide +kernel
def jm_c255_15 : List (Nat × Instr) := [(1184, .iconst 0), (1185, .ireturn), (1186, .aload_n 1), (1187, .aload_n 0), (1188, .iload_n 3), (1189, .iconst 1), (1190, .iadd), (1191, .iaload), (1192, .aload_n 0), (1193, .iload_n 3), (1194, .iconst 2), (1195, .iadd), (1196, .iaload), (1197, .aload_n 0), (1198, .iload_n 3), (1199, .iconst 3), (1200, .iadd), (1201, .iaload), (1202, .invokevirtual 115), (1205, .aload_n 2), (1206, .aload_n 0), (1207, .iload_n 3), (1208, .iconst 1), (1209, .iadd), (1210, .iaload), (1211, .aload_n 0), (1212, .iload_n 3), (1213, .iconst 2), (1214, .iadd), (1215, .iaload), (1216, .aload_n 0), (1217, .iload_n 3), (1218, .iconst 3), (1219, .iadd), (1220, .iaload), (1221, .invokevirtual 118), (1224, .if_icmp .eq 107), (1227, .iconst 0), (1228, .ireturn), (1229, .aload_n 1), (1230, .aload_n 0), (1231, .iload_n 3), (1232, .iconst 1), (1233, .iadd), (1234, .iaload), (1235, .aload_n 0), (1236, .iload_n 3), (1237, .iconst 2), (1238, .iadd), (1239, .iaload), (1240, .invokevirtual 119), (1243, .aload_n 2), (1244, .aload_n 0), (1245, .iload_n 3), (1246, .iconst 1), (1247, .iadd), (1248, .iaload), (1249, .aload_n 0), (1250, .iload_n 3), (1251, .iconst 2)]
theorem jm_okc255_15 : jm_c255_15.all (jm_xi 255) = true := by decide +kernel
def jm_c255_16 : List (Nat × Instr) := [(1252, .iadd), (1253, .iaload), (1254, .invokevirtual 122), (1257, .if_icmp .eq 74), (1260, .iconst 0), (1261, .ireturn), (1262, .aload_n 1), (1263, .aload_n 0), (1264, .iload_n 3), (1265, .iconst 1), (1266, .iadd), (1267, .iaload), (1268, .invokevirtual 123), (1271, .aload_n 2), (1272, .aload_n 0), (1273, .iload_n 3), (1274, .iconst 1), (1275, .iadd), (1276, .iaload), (1277, .invokevirtual 127), (1280, .if_icmp .eq 51), (1283, .iconst 0), (1284, .ireturn), (1285, .aload_n 1), (1286, .aload_n 0), (1287, .iload_n 3), (1288, .iconst 1), (1289, .iadd), (1290, .iaload), (1291, .invokevirtual 128), (1294, .aload_n 2), (1295, .aload_n 0), (1296, .iload_n 3), (1297, .iconst 1), (1298, .iadd), (1299, .iaload), (1300, .invokevirtual 131), (1303, .if_icmp .eq 28), (1306, .iconst 0), (1307, .ireturn), (1308, .aload_n 1), (1309, .aload_n 0), (1310, .iload_n 3), (1311, .iconst 1), (1312, .iadd), (1313, .iaload), (1314, .invokevirtual 132), (1317, .aload_n 2), (1318, .aload_n 0), (1319, .iload_n 3), (1320, .iconst 1), (1321, .iadd), (1322, .iaload), (1323, .invokevirtual 135), (1326, .if_icmp .eq 5), (1329, .iconst 0), (1330, .ireturn), (1331, .iinc 3 6), (1334, .goto (-1316)), (1337, .iconst 1)]
theorem jm_okc255_16 : jm_c255_16.all (jm_xi 255) = true := by decide +kernel
def jm_c255_17 : List (Nat × Instr) := [(1338, .ireturn)]
theorem jm_okc255_17 : jm_c255_17.all (jm_xi 255) = true := by decide +kernel
theorem jm_okc255 : jm_xc 255 = true := by
  show jm_c255.all (jm_xi 255) = true
  rw [show jm_c255 = jm_c255_0 ++ (jm_c255_1 ++ (jm_c255_2 ++ (jm_c255_3 ++ (jm_c255_4 ++ (jm_c255_5 ++ (jm_c255_6 ++ (jm_c255_7 ++ (jm_c255_8 ++ (jm_c255_9 ++ (jm_c255_10 ++ (jm_c255_11 ++ (jm_c255_12 ++ (jm_c255_13 ++ (jm_c255_14 ++ (jm_c255_15 ++ (jm_c255_16 ++ (jm_c255_17))))))))))))))))) from rfl]
  simp only [List.all_append, jm_okc255_0, jm_okc255_1, jm_okc255_2, jm_okc255_3, jm_okc255_4, jm_okc255_5, jm_okc255_6, jm_okc255_7, jm_okc255_8, jm_okc255_9, jm_okc255_10, jm_okc255_11, jm_okc255_12, jm_okc255_13, jm_okc255_14, jm_okc255_15, jm_okc255_16, jm_okc255_17, Bool.and_true]
